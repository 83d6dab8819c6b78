/-! feed, exactly: both sides count the signs that fit -/
def fdS (x : Int64) (c : Int32) : Int32 := ((x.toUInt64 >>> (c.toInt64.toUInt64 &&& Int64.toUInt64 63)).toInt64 &&& 255).toInt32
def fdN (n : Int) (s : Int32) : Int := if (s.toInt = 10 ∨ (32 ≤ s.toInt ∧ s.toInt ≤ 126)) ∧ n < 1000 then n + 1 else n
def fdL (x : Int64) : Nat → Int → Int
  | 0, n => n
  | m + 1, n => fdL x m (fdN n (fdS x (Int32.ofNat (8 * m))))
def fdX (a b c : Int64) (r : Nat) : Int64 := if 16 ≤ r then a else if 8 ≤ r then b else c
def fdT (a b c : Int64) : Nat → Int → Int
  | 0, n => n
  | r + 1, n => fdT a b c r (fdN n (fdS (fdX a b c r) (Int32.ofNat (8 * (r % 8)))))
theorem fdT_eq (a b c : Int64) (n : Int) : fdT a b c 24 n = fdL c 8 (fdL b 8 (fdL a 8 n)) := rfl
def fdI : Nat → Se
  | 0 => (-2147483648, 9, 0, 0, 0)
  | 1 => (10, 10, 0, 0, 0)
  | 2 => (11, 31, 0, 0, 0)
  | 3 => (32, 126, 0, 0, 0)
  | _ => (127, 2147483647, 0, 0, 0)
def fdJ : Nat → Se
  | 0 => (0, 999, 0, 0, 0)
  | _ => (1000, 1000, 0, 0, 0)
def fdD (i j : Nat) : Int := if (i = 1 ∨ i = 3) ∧ j = 0 then 1 else 0
theorem fd_case {n : Int} {s : Int32} (h0 : 0 ≤ n) (h1 : n ≤ 1000) : ∃ i j, i < 5 ∧ j < 2 ∧ ((fdI i).1 ≤ s.toInt ∧ s.toInt ≤ (fdI i).2.1 ∧ (fdI i).2.2.1 = 0) ∧ ((fdJ j).1 ≤ n ∧ n ≤ (fdJ j).2.1 ∧ (fdJ j).2.2.1 = 0) ∧ fdN n s = n + fdD i j ∧ 0 ≤ n + fdD i j ∧ n + fdD i j ≤ 1000 := by
  obtain ⟨r1, r2⟩ := r32 s
  have hj : ∃ j, j < 2 ∧ ((fdJ j).1 ≤ n ∧ n ≤ (fdJ j).2.1 ∧ (fdJ j).2.2.1 = 0) ∧ ((j = 0 ∧ n < 1000) ∨ (j = 1 ∧ ¬ n < 1000)) := by
    rcases Int.lt_or_le n 1000 with h | h
    · exact ⟨0, by decide, ⟨h0, by show n ≤ 999; omega, rfl⟩, Or.inl ⟨rfl, h⟩⟩
    · exact ⟨1, by decide, ⟨h, h1, rfl⟩, Or.inr ⟨rfl, by omega⟩⟩
  have hi : ∃ i, i < 5 ∧ ((fdI i).1 ≤ s.toInt ∧ s.toInt ≤ (fdI i).2.1 ∧ (fdI i).2.2.1 = 0) ∧ (((i = 1 ∨ i = 3) ∧ (s.toInt = 10 ∨ (32 ≤ s.toInt ∧ s.toInt ≤ 126))) ∨ (¬ (i = 1 ∨ i = 3) ∧ ¬ (s.toInt = 10 ∨ (32 ≤ s.toInt ∧ s.toInt ≤ 126)))) := by
    by_cases a1 : s.toInt ≤ 9
    · exact ⟨0, by decide, ⟨r1, a1, rfl⟩, Or.inr ⟨by decide, by omega⟩⟩
    by_cases a2 : s.toInt ≤ 10
    · exact ⟨1, by decide, ⟨by show (10 : Int) ≤ _; omega, a2, rfl⟩, Or.inl ⟨by decide, by omega⟩⟩
    by_cases a3 : s.toInt ≤ 31
    · exact ⟨2, by decide, ⟨by show (11 : Int) ≤ _; omega, a3, rfl⟩, Or.inr ⟨by decide, by omega⟩⟩
    by_cases a4 : s.toInt ≤ 126
    · exact ⟨3, by decide, ⟨by show (32 : Int) ≤ _; omega, a4, rfl⟩, Or.inl ⟨by decide, by omega⟩⟩
    · exact ⟨4, by decide, ⟨by show (127 : Int) ≤ _; omega, r2, rfl⟩, Or.inr ⟨by decide, by omega⟩⟩
  obtain ⟨i, i1, i2, i3⟩ := hi
  obtain ⟨j, j1, j2, j3⟩ := hj
  refine ⟨i, j, i1, j1, i2, j2, ?_⟩
  unfold fdN fdD
  rcases i3 with ⟨p, q⟩ | ⟨p, q⟩
  · rcases j3 with ⟨rfl, u⟩ | ⟨rfl, u⟩
    · rw [if_pos ⟨q, u⟩, if_pos ⟨p, rfl⟩]
      exact ⟨rfl, by omega, by omega⟩
    · rw [if_neg (fun z => u z.2), if_neg (fun z => absurd z.2 (by decide))]
      exact ⟨by omega, by omega, by omega⟩
  · rw [if_neg (fun z => q z.1), if_neg (fun z => p z.1)]
    exact ⟨by omega, by omega, by omega⟩
theorem sem_of {L : Lk} {n nL len : Nat} {cc : ByteArray} {cf cf' : Cf} {ins : Instr} (hd : decode cc cf.1 = .ok (ins, len)) (h : pm_ins L n nL ins len cf = some cf') : pm_sem L n nL cc cf = some cf' := by
  unfold pm_sem
  rw [hd]
  exact h
theorem gdS {k : Nat} {o : Option Cf} {x : Cf} (h : o = some x) : pi_gd k k o = some x := by
  unfold pi_gd
  rw [if_pos rfl]
  exact h
theorem ldv {kd : Value → Bool} {i len : Nat} {cf : Cf} {v : Value} (h : pm_g cf.2.1 i = some v) (hk : kd v = true) : pi_ld kd i len cf = some (cf.1 + len, cf.2.1, v :: cf.2.2.1, cf.2.2.2) := by
  unfold pi_ld
  rw [h]
  show (if kd v = true then _ else none) = _
  rw [if_pos hk]
theorem ldcL {L : Lk} {idx : Nat} {cf : Cf} {x : Int64} (h : L.2.1 idx = some (.long x)) : pi_ldc L idx 3 pm_isL cf = some (cf.1 + 3, cf.2.1, .long x :: cf.2.2.1, cf.2.2.2) := by
  unfold pi_ldc
  rw [h]
  rfl
theorem st1 {i len nL : Nat} {cf : Cf} {x : Int32} {st : List Value} (h : cf.2.2.1 = .int x :: st) (hi : i < nL) : pi_st1 pm_isI i len nL cf = some (cf.1 + len, pm_s1 cf.2.1 i (.int x), st, cf.2.2.2) := by
  unfold pi_st1
  rw [h]
  show (if pm_isI (.int x) = true ∧ i < nL then _ else none) = _
  rw [if_pos ⟨rfl, hi⟩]
theorem gl_l {vs : List Int} {al : List (Nat × Av)} {lo : List (Nat × Value)} {i s : Nat} {x : Int64} (g : gl RGw vs al lo) (h : (i, (1, s, 0)) ∈ al) (hw : vs[s]? = some x.toInt) : pm_g lo i = some (.long x) := by
  obtain ⟨v, z1, z2⟩ := g _ h
  obtain ⟨y, w, rfl, z3, z4⟩ := gv_long z2 rfl
  have z3 : vs[s]? = some w := z3
  rw [hw] at z3
  cases z3
  have : y = x := Int64.toInt_inj.mp (by rw [z4]; exact Int.add_zero _)
  rw [this] at z1
  exact z1
theorem gl_nil {vs : List Int} {lo : List (Nat × Value)} : gl RGw vs [] lo := fun q hq => by cases hq
theorem gl_cons {vs : List Int} {lo : List (Nat × Value)} {i : Nat} {a : Av} {al : List (Nat × Av)} {v : Value} (h : pm_g lo i = some v) (hv : gv RGw vs a v) (g : gl RGw vs al lo) : gl RGw vs ((i, a) :: al) lo := fun q hq => by
  rcases List.mem_cons.mp hq with rfl | hq
  · exact ⟨v, h, hv⟩
  · exact g q hq
def bG5 : List (Nat × Nat × Nat) := [(3, 0, 0), (3, 1, 0), (3, 2, 0), (3, 3, 0), (3, 4, 0)]
def bG4 : List (Nat × Nat × Nat) := [(3, 0, 0), (3, 1, 0), (3, 2, 0), (3, 3, 0)]
def bG6 : List (Nat × Nat × Nat) := [(3, 0, 0), (3, 1, 0), (3, 2, 0), (3, 3, 0), (3, 4, 0), (3, 5, 0)]
/-- the class's feedEight -/
abbrev f8M : Me := mtX7[4]
abbrev f8St (d : Nat) : Cf → Cf → Prop := pm_Stp mtb (xsT 229) d (pm_Ex mtb (xsT 229) 229 d) f8M 229
def fMd : Md := [(1, 0, 1), (2, 0, 1000)]
def f8Q (d : Nat) (T : Int) (h0 : Ph) (cf : Cf) : Prop := ∃ (N : Nat) (cf' : Cf) (h' : Ph) (n' : Int32), pm_It (f8St d) N cf cf' ∧ pm_res f8M.2.2.2.1 f8M.2.1 cf' = some (none, h') ∧ hI HTw RGw 229 h' ∧ fr fMd h0 h' ∧ pm_slot (h' 1) 0 = some (.int n') ∧ n'.toInt = T
theorem f8Q_stp {d : Nat} {T : Int} {h0 : Ph} : ∀ a b, f8St d a b → f8Q d T h0 b → f8Q d T h0 a := by
  intro a b h ⟨N, cf', h', n', h1, h2⟩
  exact ⟨N + 1, cf', h', n', ⟨b, h, h1⟩, h2⟩
theorem f8d3 : decode f8M.2.1 3 = .ok (.iload_n 3, 1) := by decide +kernel
theorem f8d4 : decode f8M.2.1 4 = .ok (.ifCond .lt 84, 3) := by decide +kernel
theorem f8d7 : decode f8M.2.1 7 = .ok (.lload_n 1, 1) := by decide +kernel
theorem f8d8 : decode f8M.2.1 8 = .ok (.iload_n 3, 1) := by decide +kernel
theorem f8d9 : decode f8M.2.1 9 = .ok (.lushr, 1) := by decide +kernel
theorem f8d10 : decode f8M.2.1 10 = .ok (.ldc2_w 47, 3) := by decide +kernel
theorem f8d13 : decode f8M.2.1 13 = .ok (.land, 1) := by decide +kernel
theorem f8d14 : decode f8M.2.1 14 = .ok (.l2i, 1) := by decide +kernel
theorem f8d15 : decode f8M.2.1 15 = .ok (.istore 4, 2) := by decide +kernel
theorem f8d88 : decode f8M.2.1 88 = .ok (.return_, 1) := by decide +kernel
theorem f8c47 : f8M.2.2.2.2.1.2.1 47 = some (.long 255) := by rfl
theorem f8_blk {d : Nat} {lo : List (Nat × Value)} {x : Int64} {c : Int32} {hh : Ph} (g1 : pm_g lo 1 = some (.long x)) (g3 : pm_g lo 3 = some (.int c)) (hc : ¬ c < 0) : pm_It (f8St d) 9 (3, lo, [], hh) (17, pm_s1 lo 4 (.int (fdS x c)), [], hh) := by
  have e4 : pi_if .lt 84 (4, lo, [.int c], hh) = some (7, lo, [], hh) := by
    show pi_br (pm_c .lt c 0) 84 [] (4, lo, [.int c], hh) = some (7, lo, [], hh)
    rw [show pm_c .lt c 0 = false from decide_eq_false hc]
    rfl
  exact ⟨(4, lo, [.int c], hh), Or.inl (sem_of (cf := (3, lo, [], hh)) f8d3 (gdS (ldv (kd := pm_isI) (len := 1) g3 rfl))),
    (7, lo, [], hh), Or.inl (sem_of (cf := (4, lo, [.int c], hh)) f8d4 (gdS e4)),
    (8, lo, [.long x], hh), Or.inl (sem_of (cf := (7, lo, [], hh)) f8d7 (gdS (ldv (kd := pm_isL) (len := 1) g1 rfl))),
    (9, lo, [.int c, .long x], hh), Or.inl (sem_of (cf := (8, lo, [.long x], hh)) f8d8 (gdS (ldv (kd := pm_isI) (len := 1) g3 rfl))),
    (10, lo, [.long ((x.toUInt64 >>> (c.toInt64.toUInt64 &&& Int64.toUInt64 63)).toInt64)], hh), Or.inl (sem_of (cf := (9, lo, [.int c, .long x], hh)) f8d9 (gdS rfl)),
    (13, lo, [.long 255, .long ((x.toUInt64 >>> (c.toInt64.toUInt64 &&& Int64.toUInt64 63)).toInt64)], hh), Or.inl (sem_of (cf := (10, lo, [.long ((x.toUInt64 >>> (c.toInt64.toUInt64 &&& Int64.toUInt64 63)).toInt64)], hh)) f8d10 (gdS (ldcL f8c47))),
    (14, lo, [.long ((x.toUInt64 >>> (c.toInt64.toUInt64 &&& Int64.toUInt64 63)).toInt64 &&& 255)], hh), Or.inl (sem_of (cf := (13, lo, [.long 255, .long ((x.toUInt64 >>> (c.toInt64.toUInt64 &&& Int64.toUInt64 63)).toInt64)], hh)) f8d13 (gdS rfl)),
    (15, lo, [.int (fdS x c)], hh), Or.inl (sem_of (cf := (14, lo, [.long ((x.toUInt64 >>> (c.toInt64.toUInt64 &&& Int64.toUInt64 63)).toInt64 &&& 255)], hh)) f8d14 (gdS rfl)),
    (17, pm_s1 lo 4 (.int (fdS x c)), [], hh), Or.inl (sem_of (cf := (15, lo, [.int (fdS x c)], hh)) f8d15 (gdS (st1 (i := 4) (len := 2) rfl (by decide)))), rfl⟩
def f8Lo (o : Int) : List (Nat × Av) := [(0, (2, 1, 0)), (1, (1, 1, 0)), (3, (0, 2, o))]
def f8A (e : Se) : Ab := (3, f8Lo 0, [], [(0, 0, 0, 0, 0), tp64, e, (0, 1000, 0, 0, 0)], [(1, 0, (0, 3, 0))])
def f8P (i j : Nat) : Ab := (17, [(0, (2, 1, 0)), (1, (1, 1, 0)), (3, (0, 2, 0)), (4, (0, 4, 0))], [], [(0, 0, 0, 0, 0), tp64, (0, 56, 0, 0, 0), fdJ j, fdI i], [(1, 0, (0, 3, 0))])
def f8C (i j : Nat) : Cu := ((3, f8Lo (-8), [], [(0, 0, 0, 0, 0), tp64, (0, 56, 0, 0, 0), fdJ j, fdI i], [(1, 0, (0, 3, fdD i j))]), bG5)
def f8Nx : Op0 → Ab → Option (List Ab) := nxA HTw RGw FKw UNw KCw mtb (exA HTw fMd 1 exX7) fMd 1 (fun _ => [])
def f8K : Bool := (List.range 5).all fun i => (List.range 2).all fun j => rn RGw (Pt PX7_feedEight) f8Nx 5 0 [] [3] [(f8C i j, [])] none 60 (f8P i j)
theorem f8K_ok : f8K = true := by decide +kernel
def f8E : Cu := ((88, [], [], [(0, 0, 0, 0, 0), tp64, (-8, -8, 0, 0, 0), (0, 1000, 0, 0, 0)], [(1, 0, (0, 3, 0))]), bG4)
theorem f8E_ok : rn RGw (Pt PX7_feedEight) f8Nx 4 0 [] [88] [(f8E, [])] none 20 (f8A (-8, -8, 0, 0, 0)) = true := by decide +kernel
def f8B : Cu := ((3, [(0, (2, 1, 0)), (1, (1, 1, 0)), (3, (0, 0, 56))], [], [(0, 0, 0, 0, 0), tp64, (0, 1000, 0, 0, 0)], [(1, 0, (0, 2, 0))]), bG3)
theorem f8B_ok : rn RGw (Pt PX7_feedEight) f8Nx 3 0 [] [3] [(f8B, [])] none 20 (0, [(0, (2, 1, 0)), (1, (1, 1, 0))], [], [(0, 0, 0, 0, 0), tp64, (0, 1000, 0, 0, 0)], [(1, 0, (0, 2, 0))]) = true := by decide +kernel
theorem f8_nx {d : Nat} {h0 : Ph} : ∀ o A Bs vs cf, ga HTw RGw 229 fMd h0 vs A cf → Pt PX7_feedEight A.1 = some o → o.1 ≠ 22 → f8Nx o A = some Bs → ∃ cf', f8St d cf cf' ∧ ∃ B ∈ Bs, ∃ ws, ga HTw RGw 229 fMd h0 (vs ++ ws) B cf' :=
  nxA_ok (me := f8M) (by decide) hUw hKCw (fun _ _ _ _ _ _ _ _ _ z a b c d e => exA_ok (hlv := z) (me := f8M) exX7_ok a b c d e) (Pck_ok PX7_feedEight_ok) (fun _ _ h => by cases h) (by omega)
theorem f8_loop {d : Nat} {x : Int64} {h0 : Ph} {T : Int} : ∀ (m : Nat) (n : Int) (cf : Cf), m ≤ 8 → 0 ≤ n → n ≤ 1000 → fdL x m n = T → ga HTw RGw 229 fMd h0 [0, x.toInt, 8 * (m : Int) - 8, n] (f8A (-8, 56, 0, 0, 0)) cf → f8Q d T h0 cf := by
  intro m
  induction m with
  | zero =>
    intro n cf _ h1 h2 hT gA
    obtain ⟨a0, a1, a2, a3, a4, a5, a6⟩ := gA
    refine rn_to (vs0 := [0, x.toInt, 8 * ((0 : Nat) : Int) - 8, n]) f8Q_stp (f8_nx (d := d)) (fun c hc2 vs' cf' g' hp' => ?_) 20 (f8A (-8, -8, 0, 0, 0)) _ cf ⟨a0, a1, a2, gsA ⟨i64 x, ⟨by decide, by decide, rfl⟩, ⟨h1, h2, rfl⟩, trivial⟩, a4, a5, a6⟩ ⟨[], rfl⟩ f8E_ok
    rw [List.mem_singleton.mp hc2] at g'
    obtain ⟨ws, rfl⟩ := hp'
    obtain ⟨p0, p1, p2, p3, p4, p5, p6⟩ := g'
    have := ws0 p3.1 rfl
    subst this
    have p0 : cf'.1 = 88 := p0
    obtain ⟨y, w, y1, y2, y3⟩ := gf1_to (by decide) p4
    have y2 : some n = some w := y2
    cases y2
    refine ⟨0, cf', cf'.2.2.2, y, rfl, ?_, p5, p6, y1, by rw [y3, ← hT]; exact Int.add_zero n⟩
    unfold pm_res
    rw [p0, f8d88, gst_nil p2]
    rfl
  | succ m ih =>
    intro n cf hm h1 h2 hT gA
    obtain ⟨a0, a1, a2, a3, a4, a5, a6⟩ := gA
    have a0 : cf.1 = 3 := a0
    have g0 := gl_r (i := 0) (c := 1) (z := 0) a1 List.mem_cons_self
    have g1 := gl_l (i := 1) (s := 1) (x := x) a1 (List.mem_cons_of_mem _ List.mem_cons_self) rfl
    obtain ⟨c, g3, hc⟩ := gl_i (i := 3) (s := 2) (o := 0) a1 (List.mem_cons_of_mem _ (List.mem_cons_of_mem _ List.mem_cons_self)) rfl
    have hc : c.toInt = 8 * (m : Int) := by rw [hc]; omega
    have hce : c = Int32.ofNat (8 * m) := by
      apply Int32.toInt_inj.mp
      rw [Int32.toInt_ofNat_of_lt (by omega), hc]
      omega
    have hcn : ¬ c < 0 := by
      rw [Int32.lt_iff_toInt_lt, hc]
      show ¬ (8 * (m : Int) < 0)
      omega
    have hcf : cf = (3, cf.2.1, [], cf.2.2.2) := by rw [← a0, ← gst_nil a2]
    rw [hcf]
    refine pm_It_ok (P := f8Q d T h0) f8Q_stp 9 _ _ (f8_blk g1 g3 hcn) ?_
    obtain ⟨s, hs⟩ : ∃ s, fdS x c = s := ⟨_, rfl⟩
    obtain ⟨i, j, i1, j1, i2, j2, k1, k2, k3⟩ := fd_case (s := s) h1 h2
    obtain ⟨y, w, y1, y2, y3⟩ := gf1_to (by decide) a4
    have y2 : some n = some w := y2
    cases y2
    rw [hs]
    have gl5 : gl RGw [0, x.toInt, 8 * (m : Int), n, s.toInt] [(0, (2, 1, 0)), (1, (1, 1, 0)), (3, (0, 2, 0)), (4, (0, 4, 0))] (pm_s1 cf.2.1 4 (.int s)) := by
      have q := gl_s1 (RG := RGw) (vs := [0, x.toInt, 8 * (m : Int), n, s.toInt]) (al := [(0, (2, 1, 0)), (1, (1, 1, 0)), (3, (0, 2, 0))]) (i := 4) (a := (0, 4, 0)) (v := .int s) (gl_cons g0 gvR (gl_cons g1 (gvL rfl) (gl_cons g3 ⟨rfl, _, rfl, by show c.toInt = 8 * (m : Int) + 0; omega⟩ gl_nil))) (gvI rfl)
      intro u hu
      apply q
      simp only [sA1, List.mem_cons, List.not_mem_nil, or_false] at hu ⊢
      rcases hu with rfl | rfl | rfl | rfl <;> simp
    refine rn_to (vs0 := [0, x.toInt, 8 * (m : Int), n, s.toInt]) f8Q_stp (f8_nx (d := d)) (fun c3 hc3 vs3 cf3 g3' hp3 => ?_) 60 (f8P i j) _ _ ⟨rfl, gl5, trivial, gsA ⟨i64 x, ⟨by show (0 : Int) ≤ _; omega, by show _ ≤ (56 : Int); omega, rfl⟩, j2, i2, trivial⟩, gf1_of (by decide) y1 rfl y3, a5, a6⟩ ⟨[], rfl⟩ (List.all_eq_true.mp (List.all_eq_true.mp f8K_ok i (List.mem_range.mpr i1)) j (List.mem_range.mpr j1))
    rw [List.mem_singleton.mp hc3] at g3'
    obtain ⟨ws, rfl⟩ := hp3
    obtain ⟨p0, p1, p2, p3, p4, p5, p6⟩ := g3'
    have := ws0 p3.1 rfl
    subst this
    have b0 := gl_r (i := 0) (c := 1) (z := 0) p1 List.mem_cons_self
    have b1 := gl_l (i := 1) (s := 1) (x := x) p1 (List.mem_cons_of_mem _ List.mem_cons_self) rfl
    obtain ⟨c', b3, hc'⟩ := gl_i (i := 3) (s := 2) (o := -8) p1 (List.mem_cons_of_mem _ (List.mem_cons_of_mem _ List.mem_cons_self)) rfl
    obtain ⟨y', w', z1, z2, z3⟩ := gf1_to (by decide) p4
    have z2 : some n = some w' := z2
    cases z2
    have hT' : fdL x m (n + fdD i j) = T := by
      rw [← hT, ← k1]
      show _ = fdL x m (fdN n (fdS x (Int32.ofNat (8 * m))))
      rw [← hce, hs]
    exact ih (n + fdD i j) cf3 (by omega) k2 k3 hT' ⟨p0, gl_cons b0 gvR (gl_cons b1 (gvL rfl) (gl_cons b3 ⟨rfl, _, rfl, by show c'.toInt = 8 * (m : Int) - 8 + 0; omega⟩ gl_nil)), by rw [gst_nil p2]; trivial, gsA ⟨i64 x, ⟨by show (-8 : Int) ≤ _; omega, by show _ ≤ (56 : Int); omega, rfl⟩, ⟨k2, k3, rfl⟩, trivial⟩, gf1_of (by decide) z1 rfl (by rw [z3]; exact (Int.add_zero _).symm), p5, p6⟩
theorem tok_len {h : Ph} {n : Int32} (hi : hI HTw RGw 229 h) (hn : pm_slot (h 1) 0 = some (.int n)) : 0 ≤ n.toInt ∧ n.toInt ≤ 1000 := by
  obtain ⟨v, h1, h2⟩ := (hi.1 1 (by decide)).2.2 (0, 1, (0, 0, 0, 1000)) (by decide) 0 (by decide) (by decide)
  rw [hn] at h1
  cases h1
  exact h2.2
theorem f8_ex {d : Nat} (hd : 1 ≤ d) {x : Int64} {h : Ph} {n : Int32} (hi : hI HTw RGw 229 h) (hn : pm_slot (h 1) 0 = some (.int n)) : ∃ (h' : Ph) (n' : Int32), pm_Ex mtb (xsT 229) 229 d 900 [.ref 1, .long x] h none h' ∧ hI HTw RGw 229 h' ∧ fr fMd h h' ∧ pm_slot (h' 1) 0 = some (.int n') ∧ n'.toInt = fdL x 8 n.toInt := by
  obtain ⟨d', rfl⟩ : ∃ d', d = d' + 1 := ⟨d - 1, by omega⟩
  obtain ⟨t1, t2⟩ := tok_len hi hn
  have hq : f8Q d' (fdL x 8 n.toInt) h (0, lv_args 0 [.ref 1, .long x], [], h) := by
    refine rn_to (vs0 := [0, x.toInt, n.toInt]) (h0 := h) (md := fMd) f8Q_stp (f8_nx (d := d')) (fun c hc2 vs' cf' g' hp' => ?_) 20 (0, [(0, (2, 1, 0)), (1, (1, 1, 0))], [], [(0, 0, 0, 0, 0), tp64, (0, 1000, 0, 0, 0)], [(1, 0, (0, 2, 0))]) [0, x.toInt, n.toInt] _ ⟨rfl, gl_cons rfl gvR (gl_cons rfl (gvL rfl) gl_nil), trivial, gsA ⟨i64 x, ⟨t1, t2, rfl⟩, trivial⟩, gf1_of (by decide) hn rfl (Int.add_zero _).symm, hi, fun c j _ => rfl⟩ ⟨[], rfl⟩ f8B_ok
    rw [List.mem_singleton.mp hc2] at g'
    obtain ⟨ws, rfl⟩ := hp'
    obtain ⟨p0, p1, p2, p3, p4, p5, p6⟩ := g'
    have := ws0 p3.1 rfl
    subst this
    have b0 := gl_r (i := 0) (c := 1) (z := 0) p1 List.mem_cons_self
    have b1 := gl_l (i := 1) (s := 1) (x := x) p1 (List.mem_cons_of_mem _ List.mem_cons_self) rfl
    obtain ⟨c', b3, hc'⟩ := gl_i (i := 3) (s := 0) (o := 56) p1 (List.mem_cons_of_mem _ (List.mem_cons_of_mem _ List.mem_cons_self)) rfl
    obtain ⟨y', w', z1, z2, z3⟩ := gf1_to (by decide) p4
    have z2 : some n.toInt = some w' := z2
    cases z2
    exact f8_loop 8 n.toInt cf' (Nat.le_refl 8) t1 t2 rfl ⟨p0, gl_cons b0 gvR (gl_cons b1 (gvL rfl) (gl_cons b3 ⟨rfl, _, rfl, by show c'.toInt = 8 * ((8 : Nat) : Int) - 8 + 0; omega⟩ gl_nil)), by rw [gst_nil p2]; trivial, gsA ⟨i64 x, ⟨by decide, by decide, rfl⟩, ⟨t1, t2, rfl⟩, trivial⟩, gf1_of (by decide) z1 rfl z3, p5, p6⟩
  obtain ⟨N, cf', h', n', h1, h2, h3, h4, h5, h6⟩ := hq
  exact ⟨h', n', ⟨f8M, rfl, by show 3 ≤ _; decide, N, cf', h1, h2⟩, h3, h4, h5, h6⟩
