/-! feed of the class, feed of the model -/
abbrev fxM : Me := mtX10[11]
abbrev fxSt (d : Nat) : Cf → Cf → Prop := pm_Stp mtb (xsT 229) d (pm_Ex mtb (xsT 229) 229 d) fxM 229
def fxQ (d : Nat) (T : Int) (h0 : Ph) (cf : Cf) : Prop := ∃ (N : Nat) (cf' : Cf) (h' : Ph) (n' : Int32), pm_It (fxSt d) N cf cf' ∧ pm_res fxM.2.2.2.1 fxM.2.1 cf' = some (some (.int n'), h') ∧ hI HTw RGw 229 h' ∧ fr fMd h0 h' ∧ pm_slot (h' 1) 0 = some (.int n') ∧ n'.toInt = T
theorem fxQ_stp {d : Nat} {T : Int} {h0 : Ph} : ∀ a b, fxSt d a b → fxQ d T h0 b → fxQ d T h0 a := by
  intro a b h ⟨N, cf', h', n', h1, h2⟩
  exact ⟨N + 1, cf', h', n', ⟨b, h, h1⟩, h2⟩
def fxLo : List (Nat × Av) := [(0, (2, 0, 0)), (1, (1, 1, 0)), (3, (1, 2, 0)), (5, (1, 3, 0))]
def fxZ : Sy := [(0, 0, 0, 0, 0), tp64, tp64, tp64, (0, 1000, 0, 0, 0)]
def fxA (pc : Nat) : Ab := (pc, fxLo, [], fxZ, [(1, 0, (0, 4, 0))])
def fxC (pc k : Nat) : Cu := ((pc, fxLo, [(1, k, 0), (2, 1, 0)], fxZ, [(1, 0, (0, 4, 0))]), bG5)
def fxE : Cu := ((32, [], [(0, 4, 0)], fxZ, [(1, 0, (0, 4, 0))]), bG5)
def fxNx : Op0 → Ab → Option (List Ab) := nxA HTw RGw FKw UNw KCw mtb (exA HTw fMd 1 exX10) fMd 1 (fun _ => [])
theorem fx_nx {d : Nat} {h0 : Ph} : ∀ o A Bs vs cf, ga HTw RGw 229 fMd h0 vs A cf → Pt PX10_feed A.1 = some o → o.1 ≠ 22 → fxNx o A = some Bs → ∃ cf', fxSt d cf cf' ∧ ∃ B ∈ Bs, ∃ ws, ga HTw RGw 229 fMd h0 (vs ++ ws) B cf' :=
  nxA_ok (me := fxM) (by decide) hUw hKCw (fun _ _ _ _ _ _ _ _ _ z a b c d e => exA_ok (hlv := z) (me := fxM) exX10_ok a b c d e) (Pck_ok PX10_feed_ok) (fun _ _ h => by cases h) (by omega)
theorem fx_r0 : rn RGw (Pt PX10_feed) fxNx 5 0 [] [5] [(fxC 5 1, [])] none 20 (fxA 0) = true := by decide +kernel
theorem fx_r1 : rn RGw (Pt PX10_feed) fxNx 5 0 [] [13] [(fxC 13 2, [])] none 20 (fxA 8) = true := by decide +kernel
theorem fx_r2 : rn RGw (Pt PX10_feed) fxNx 5 0 [] [22] [(fxC 22 3, [])] none 20 (fxA 16) = true := by decide +kernel
theorem fx_r3 : rn RGw (Pt PX10_feed) fxNx 5 0 [] [32] [(fxE, [])] none 20 (fxA 25) = true := by decide +kernel
theorem fxd5 : decode fxM.2.1 5 = .ok (.invokevirtual 95, 3) := by decide +kernel
theorem fxd13 : decode fxM.2.1 13 = .ok (.invokevirtual 95, 3) := by decide +kernel
theorem fxd22 : decode fxM.2.1 22 = .ok (.invokevirtual 95, 3) := by decide +kernel
theorem fxd32 : decode fxM.2.1 32 = .ok (.ireturn, 1) := by decide +kernel
theorem fxl95 : fxM.2.2.2.2.1.2.2.2 95 = some (900, 1) := by rfl
theorem fx_ga {pc : Nat} {a b c : Int64} {n : Int32} {h0 hh : Ph} {lo : List (Nat × Value)} (g0 : pm_g lo 0 = some (.ref 0)) (g1 : pm_g lo 1 = some (.long a)) (g3 : pm_g lo 3 = some (.long b)) (g5 : pm_g lo 5 = some (.long c)) (hi : hI HTw RGw 229 hh) (hn : pm_slot (hh 1) 0 = some (.int n)) (hf : fr fMd h0 hh) : ga HTw RGw 229 fMd h0 [0, a.toInt, b.toInt, c.toInt, n.toInt] (fxA pc) (pc, lo, [], hh) :=
  ⟨rfl, gl_cons g0 gvR (gl_cons g1 (gvL rfl) (gl_cons g3 (gvL rfl) (gl_cons g5 (gvL rfl) gl_nil))), trivial, gsA ⟨i64 a, i64 b, i64 c, ⟨(tok_len hi hn).1, (tok_len hi hn).2, rfl⟩, trivial⟩, gf1_of (by decide) hn rfl (Int.add_zero _).symm, hi, hf⟩
theorem fx_seg {d p p1 k : Nat} (hd : 1 ≤ d) {a b c x : Int64} {n : Int32} {h0 hh : Ph} {T : Int} {lo : List (Nat × Value)} (hr : rn RGw (Pt PX10_feed) fxNx 5 0 [] [p1] [(fxC p1 k, [])] none 20 (fxA p) = true) (hdc : decode fxM.2.1 p1 = .ok (.invokevirtual 95, 3)) (hk : [0, a.toInt, b.toInt, c.toInt, n.toInt][k]? = some x.toInt)
    (g0 : pm_g lo 0 = some (.ref 0)) (g1 : pm_g lo 1 = some (.long a)) (g3 : pm_g lo 3 = some (.long b)) (g5 : pm_g lo 5 = some (.long c)) (hi : hI HTw RGw 229 hh) (hn : pm_slot (hh 1) 0 = some (.int n)) (hf : fr fMd h0 hh)
    (K : ∀ (lo' : List (Nat × Value)) (h' : Ph) (n' : Int32), pm_g lo' 0 = some (.ref 0) → pm_g lo' 1 = some (.long a) → pm_g lo' 3 = some (.long b) → pm_g lo' 5 = some (.long c) → hI HTw RGw 229 h' → pm_slot (h' 1) 0 = some (.int n') → fr fMd h0 h' → n'.toInt = fdL x 8 n.toInt → fxQ d T h0 (p1 + 3, lo', [], h')) : fxQ d T h0 (p, lo, [], hh) := by
  refine rn_to (vs0 := [0, a.toInt, b.toInt, c.toInt, n.toInt]) fxQ_stp (fx_nx (d := d)) (fun cu hc2 vs' cf' g' hp' => ?_) 20 (fxA p) _ _ (fx_ga g0 g1 g3 g5 hi hn hf) ⟨[], rfl⟩ hr
  rw [List.mem_singleton.mp hc2] at g'
  obtain ⟨ws, rfl⟩ := hp'
  obtain ⟨p0, q1, p2, p3, p4, p5, p6⟩ := g'
  have := ws0 p3.1 rfl
  subst this
  have p0 : cf'.1 = p1 := p0
  have b0 := gl_r (i := 0) (c := 0) (z := 0) q1 List.mem_cons_self
  have b1 := gl_l (i := 1) (s := 1) (x := a) q1 (List.mem_cons_of_mem _ List.mem_cons_self) rfl
  have b3 := gl_l (i := 3) (s := 2) (x := b) q1 (List.mem_cons_of_mem _ (List.mem_cons_of_mem _ List.mem_cons_self)) rfl
  have b5 := gl_l (i := 5) (s := 3) (x := c) q1 (List.mem_cons_of_mem _ (List.mem_cons_of_mem _ (List.mem_cons_of_mem _ List.mem_cons_self))) rfl
  obtain ⟨v, u, us, e1, e2, e3, e4⟩ := gst_cons2 p2
  have := gst_nil e4
  subst this
  obtain ⟨y, w, rfl, y1, y2⟩ := gv_long e2 rfl
  have := gv_ref e3 rfl
  subst this
  have y1 : [0, a.toInt, b.toInt, c.toInt, n.toInt][k]? = some w := y1
  rw [hk] at y1
  cases y1
  have hy : y = x := Int64.toInt_inj.mp (by rw [y2]; exact Int.add_zero _)
  subst hy
  obtain ⟨m, w, z1, z2, z3⟩ := gf1_to (by decide) p4
  have z2 : some n.toInt = some w := z2
  cases z2
  have hm : m = n := Int32.toInt_inj.mp (by rw [z3]; exact Int.add_zero _)
  subst hm
  obtain ⟨h', n', r1, r2, r3, r4, r5⟩ := f8_ex hd (x := y) p5 z1
  have hcell : ∃ fs, cf'.2.2.2 1 = .inr (7, fs) ∧ fs.length = 10 := (p5.1 1 (by decide)).2.1
  obtain ⟨fs, hfs, -⟩ := hcell
  have hstep : fxSt d cf' (p1 + 3, cf'.2.1, [], h') := by
    refine Or.inr (Or.inr ⟨95, 900, 1, f8M, [.ref 1, .long y], [], none, h', fxl95, rfl, ?_, by decide, r1, ?_, Or.inr ⟨rfl, by rw [p0]; exact hdc, 1, 7, [.long y], fs, _, rfl, rfl, by decide, hfs, rfl, rfl⟩⟩)
    · rw [e1]; rfl
    · rw [p0]; rfl
  refine fxQ_stp _ _ hstep ?_
  exact K cf'.2.1 h' n' b0 b1 b3 b5 r2 r4 (fr_trans (md' := fMd) (by decide) p6 r3) r5
theorem fx_ex {d : Nat} (hd : 2 ≤ d) {a b c : Int64} {h : Ph} {n : Int32} (hi : hI HTw RGw 229 h) (hn : pm_slot (h 1) 0 = some (.int n)) : ∃ (h' : Ph) (n' : Int32), pm_Ex mtb (xsT 229) 229 d 1291 [.ref 0, .long a, .long b, .long c] h (some (.int n')) h' ∧ hI HTw RGw 229 h' ∧ fr fMd h h' ∧ pm_slot (h' 1) 0 = some (.int n') ∧ n'.toInt = fdL c 8 (fdL b 8 (fdL a 8 n.toInt)) := by
  obtain ⟨d', rfl⟩ : ∃ d', d = d' + 1 := ⟨d - 1, by omega⟩
  have hq : fxQ d' (fdL c 8 (fdL b 8 (fdL a 8 n.toInt))) h (0, lv_args 0 [.ref 0, .long a, .long b, .long c], [], h) := by
    refine fx_seg (by omega) fx_r0 fxd5 (x := a) rfl rfl rfl rfl rfl hi hn (fun _ _ _ => rfl) (fun l1 h1 m1 a0 a1 a3 a5 i1 s1 f1 e1 => ?_)
    refine fx_seg (by omega) fx_r1 fxd13 (x := b) rfl a0 a1 a3 a5 i1 s1 f1 (fun l2 h2 m2 a0 a1 a3 a5 i2 s2 f2 e2 => ?_)
    refine fx_seg (by omega) fx_r2 fxd22 (x := c) rfl a0 a1 a3 a5 i2 s2 f2 (fun l3 h3 m3 a0 a1 a3 a5 i3 s3 f3 e3 => ?_)
    refine rn_to (vs0 := [0, a.toInt, b.toInt, c.toInt, m3.toInt]) fxQ_stp (fx_nx (d := d')) (fun cu hc2 vs' cf' g' hp' => ?_) 20 (fxA 25) _ _ (fx_ga a0 a1 a3 a5 i3 s3 f3) ⟨[], rfl⟩ fx_r3
    rw [List.mem_singleton.mp hc2] at g'
    obtain ⟨ws, rfl⟩ := hp'
    obtain ⟨p0, q1, p2, p3, p4, p5, p6⟩ := g'
    have := ws0 p3.1 rfl
    subst this
    have p0 : cf'.1 = 32 := p0
    obtain ⟨v, us, e5, e6, e7⟩ := gst_cons p2
    have := gst_nil e7
    subst this
    obtain ⟨y, w, rfl, y1, y2⟩ := gv_int e6 rfl
    have y1 : some m3.toInt = some w := y1
    cases y1
    have hy : y = m3 := Int32.toInt_inj.mp (by rw [y2]; exact Int.add_zero _)
    subst hy
    obtain ⟨m, w, z1, z2, z3⟩ := gf1_to (by decide) p4
    have z2 : some y.toInt = some w := z2
    cases z2
    have hm : m = y := Int32.toInt_inj.mp (by rw [z3]; exact Int.add_zero _)
    subst hm
    refine ⟨0, cf', cf'.2.2.2, m, rfl, ?_, p5, p6, z1, by rw [e3, e2, e1]⟩
    unfold pm_res
    rw [p0, fxd32, e5]
    exact if_pos ⟨rfl, rfl⟩
  obtain ⟨N, cf', h', n', h1, h2, h3, h4, h5, h6⟩ := hq
  exact ⟨h', n', ⟨fxM, rfl, by show 7 ≤ _; decide, N, cf', h1, h2⟩, h3, h4, h5, h6⟩
/-- the model's feed -/
abbrev fmM : Me := mtX11[26]
abbrev fmSt (d : Nat) : Cf → Cf → Prop := pm_Stp mtb (xsT 229) d (pm_Ex mtb (xsT 229) 229 d) fmM 229
def gMd : Md := [(172, 0, 1), (172, 1, 2), (173, 0, 1000)]
def fmQ (d : Nat) (T : Int) (h0 : Ph) (cf : Cf) : Prop := ∃ (N : Nat) (cf' : Cf) (h' : Ph) (n' : Int32), pm_It (fmSt d) N cf cf' ∧ pm_res fmM.2.2.2.1 fmM.2.1 cf' = some (some (.int n'), h') ∧ hI HTw RGw 229 h' ∧ fr gMd h0 h' ∧ pm_slot (h' 172) 1 = some (.int n') ∧ n'.toInt = T
theorem fmQ_stp {d : Nat} {T : Int} {h0 : Ph} : ∀ a b, fmSt d a b → fmQ d T h0 b → fmQ d T h0 a := by
  intro a b h ⟨N, cf', h', n', h1, h2⟩
  exact ⟨N + 1, cf', h', n', ⟨b, h, h1⟩, h2⟩
def fmLo (i : Int) : List (Nat × Av) := [(0, (2, 172, 0)), (1, (1, 1, 0)), (3, (1, 2, 0)), (5, (1, 3, 0)), (7, (0, 0, i))]
def fmA (i : Int) : Ab := (8, fmLo i, [], fxZ, [(172, 1, (0, 4, 0))])
def fmK (i : Nat) : Nat := if i < 8 then 1 else if i < 16 then 2 else 3
def fm41 (i : Nat) : Cu := ((41, fmLo i ++ [(8, (1, fmK i, 0))], [], fxZ, [(172, 1, (0, 4, 0))]), bG5)
def fmNx : Op0 → Ab → Option (List Ab) := nxA HTw RGw FKw UNw KCw mtb (exA HTw gMd 1 exX11) gMd 1 (fun _ => [])
theorem fm_nx {d : Nat} {h0 : Ph} : ∀ o A Bs vs cf, ga HTw RGw 229 gMd h0 vs A cf → Pt PX11_feed A.1 = some o → o.1 ≠ 22 → fmNx o A = some Bs → ∃ cf', fmSt d cf cf' ∧ ∃ B ∈ Bs, ∃ ws, ga HTw RGw 229 gMd h0 (vs ++ ws) B cf' :=
  nxA_ok (me := fmM) (by decide) hUw hKCw (fun _ _ _ _ _ _ _ _ _ z a b c d e => exA_ok (hlv := z) (me := fmM) exX11_ok a b c d e) (Pck_ok PX11_feed_ok) (fun _ _ h => by cases h) (by omega)
def fmK1 : Bool := (List.range 24).all fun i => rn RGw (Pt PX11_feed) fmNx 5 0 [] [41] [(fm41 i, [])] none 40 (fmA i)
theorem fmK1_ok : fmK1 = true := by decide +kernel
def fmZ (i j : Nat) : Sy := [(0, 0, 0, 0, 0), tp64, tp64, tp64, fdJ j, fdI i]
def fm62 (q i j : Nat) : Ab := (62, fmLo q ++ [(10, (0, 5, 0))], [], fmZ i j, [(172, 1, (0, 4, 0))])
def fmC8 (q i j : Nat) : Cu := ((8, fmLo (q + 1 : Nat), [], fmZ i j, [(172, 1, (0, 4, fdD i j))]), bG6)
def fmK2 : Bool := (List.range 24).all fun q => (List.range 5).all fun i => (List.range 2).all fun j => rn RGw (Pt PX11_feed) fmNx 6 0 [] [8] [(fmC8 q i j, [])] none 60 (fm62 q i j)
theorem fmK2_ok : fmK2 = true := by decide +kernel
def fmE : Cu := ((124, [], [(0, 4, 0)], fxZ, [(172, 1, (0, 4, 0))]), bG5)
theorem fmE_ok : rn RGw (Pt PX11_feed) fmNx 5 0 [] [124] [(fmE, [])] none 20 (fmA 24) = true := by decide +kernel
def fmB : Cu := ((8, fmLo 0, [], fxZ, [(172, 1, (0, 4, 0))]), bG5)
theorem fmB_ok : rn RGw (Pt PX11_feed) fmNx 5 0 [] [8] [(fmB, [])] none 20 (0, [(0, (2, 172, 0)), (1, (1, 1, 0)), (3, (1, 2, 0)), (5, (1, 3, 0))], [], fxZ, [(172, 1, (0, 4, 0))]) = true := by decide +kernel
theorem fmd41 : decode fmM.2.1 41 = .ok (.lload 8, 2) := by decide +kernel
theorem fmd43 : decode fmM.2.1 43 = .ok (.bipush 56, 2) := by decide +kernel
theorem fmd45 : decode fmM.2.1 45 = .ok (.bipush 8, 2) := by decide +kernel
theorem fmd47 : decode fmM.2.1 47 = .ok (.iload 7, 2) := by decide +kernel
theorem fmd49 : decode fmM.2.1 49 = .ok (.bipush 7, 2) := by decide +kernel
theorem fmd51 : decode fmM.2.1 51 = .ok (.iand, 1) := by decide +kernel
theorem fmd52 : decode fmM.2.1 52 = .ok (.imul, 1) := by decide +kernel
theorem fmd53 : decode fmM.2.1 53 = .ok (.isub, 1) := by decide +kernel
theorem fmd54 : decode fmM.2.1 54 = .ok (.lushr, 1) := by decide +kernel
theorem fmd55 : decode fmM.2.1 55 = .ok (.ldc2_w 184, 3) := by decide +kernel
theorem fmd58 : decode fmM.2.1 58 = .ok (.land, 1) := by decide +kernel
theorem fmd59 : decode fmM.2.1 59 = .ok (.l2i, 1) := by decide +kernel
theorem fmd60 : decode fmM.2.1 60 = .ok (.istore 10, 2) := by decide +kernel
theorem fmd124 : decode fmM.2.1 124 = .ok (.ireturn, 1) := by decide +kernel
theorem fmc184 : fmM.2.2.2.2.1.2.1 184 = some (.long 255) := by rfl
theorem fm_sh : ∀ i, i < 24 → (Int8.ofInt 56).toInt32 - (Int8.ofInt 8).toInt32 * (Int32.ofNat i &&& (Int8.ofInt 7).toInt32) = Int32.ofNat (8 * (7 - i % 8)) := by decide +kernel
theorem fm_blk {d i : Nat} (hi : i < 24) {lo : List (Nat × Value)} {x : Int64} {hh : Ph} (g8 : pm_g lo 8 = some (.long x)) (g7 : pm_g lo 7 = some (.int (Int32.ofNat i))) : pm_It (fmSt d) 13 (41, lo, [], hh) (62, pm_s1 lo 10 (.int (fdS x (Int32.ofNat (8 * (7 - i % 8))))), [], hh) := by
  have hs := fm_sh i hi
  obtain ⟨c, hc⟩ : ∃ c, Int32.ofNat (8 * (7 - i % 8)) = c := ⟨_, rfl⟩
  rw [hc] at hs
  rw [hc]
  have e53 : pi_ii (fun x y => some (x - y)) (53, lo, [.int ((Int8.ofInt 8).toInt32 * (Int32.ofNat i &&& (Int8.ofInt 7).toInt32)), .int (Int8.ofInt 56).toInt32, .long x], hh) = some (54, lo, [.int c, .long x], hh) := by
    rw [← hs]
    rfl
  exact ⟨(43, lo, [.long x], hh), Or.inl (sem_of (cf := (41, lo, [], hh)) fmd41 (gdS (ldv (kd := pm_isL) (len := 2) g8 rfl))),
    (45, lo, [.int (Int8.ofInt 56).toInt32, .long x], hh), Or.inl (sem_of (cf := (43, lo, [.long x], hh)) fmd43 (gdS rfl)),
    (47, lo, [.int (Int8.ofInt 8).toInt32, .int (Int8.ofInt 56).toInt32, .long x], hh), Or.inl (sem_of (cf := (45, lo, [.int (Int8.ofInt 56).toInt32, .long x], hh)) fmd45 (gdS rfl)),
    (49, lo, [.int (Int32.ofNat i), .int (Int8.ofInt 8).toInt32, .int (Int8.ofInt 56).toInt32, .long x], hh), Or.inl (sem_of (cf := (47, lo, [.int (Int8.ofInt 8).toInt32, .int (Int8.ofInt 56).toInt32, .long x], hh)) fmd47 (gdS (ldv (kd := pm_isI) (len := 2) g7 rfl))),
    (51, lo, [.int (Int8.ofInt 7).toInt32, .int (Int32.ofNat i), .int (Int8.ofInt 8).toInt32, .int (Int8.ofInt 56).toInt32, .long x], hh), Or.inl (sem_of (cf := (49, lo, [.int (Int32.ofNat i), .int (Int8.ofInt 8).toInt32, .int (Int8.ofInt 56).toInt32, .long x], hh)) fmd49 (gdS rfl)),
    (52, lo, [.int (Int32.ofNat i &&& (Int8.ofInt 7).toInt32), .int (Int8.ofInt 8).toInt32, .int (Int8.ofInt 56).toInt32, .long x], hh), Or.inl (sem_of (cf := (51, lo, [.int (Int8.ofInt 7).toInt32, .int (Int32.ofNat i), .int (Int8.ofInt 8).toInt32, .int (Int8.ofInt 56).toInt32, .long x], hh)) fmd51 (gdS rfl)),
    (53, lo, [.int ((Int8.ofInt 8).toInt32 * (Int32.ofNat i &&& (Int8.ofInt 7).toInt32)), .int (Int8.ofInt 56).toInt32, .long x], hh), Or.inl (sem_of (cf := (52, lo, [.int (Int32.ofNat i &&& (Int8.ofInt 7).toInt32), .int (Int8.ofInt 8).toInt32, .int (Int8.ofInt 56).toInt32, .long x], hh)) fmd52 (gdS rfl)),
    (54, lo, [.int c, .long x], hh), Or.inl (sem_of (cf := (53, lo, [.int ((Int8.ofInt 8).toInt32 * (Int32.ofNat i &&& (Int8.ofInt 7).toInt32)), .int (Int8.ofInt 56).toInt32, .long x], hh)) fmd53 (gdS e53)),
    (55, lo, [.long ((x.toUInt64 >>> (c.toInt64.toUInt64 &&& Int64.toUInt64 63)).toInt64)], hh), Or.inl (sem_of (cf := (54, lo, [.int c, .long x], hh)) fmd54 (gdS rfl)),
    (58, lo, [.long 255, .long ((x.toUInt64 >>> (c.toInt64.toUInt64 &&& Int64.toUInt64 63)).toInt64)], hh), Or.inl (sem_of (cf := (55, lo, [.long ((x.toUInt64 >>> (c.toInt64.toUInt64 &&& Int64.toUInt64 63)).toInt64)], hh)) fmd55 (gdS (ldcL fmc184))),
    (59, lo, [.long ((x.toUInt64 >>> (c.toInt64.toUInt64 &&& Int64.toUInt64 63)).toInt64 &&& 255)], hh), Or.inl (sem_of (cf := (58, lo, [.long 255, .long ((x.toUInt64 >>> (c.toInt64.toUInt64 &&& Int64.toUInt64 63)).toInt64)], hh)) fmd58 (gdS rfl)),
    (60, lo, [.int (fdS x c)], hh), Or.inl (sem_of (cf := (59, lo, [.long ((x.toUInt64 >>> (c.toInt64.toUInt64 &&& Int64.toUInt64 63)).toInt64 &&& 255)], hh)) fmd59 (gdS rfl)),
    (62, pm_s1 lo 10 (.int (fdS x c)), [], hh), Or.inl (sem_of (cf := (60, lo, [.int (fdS x c)], hh)) fmd60 (gdS (st1 (i := 10) (len := 2) rfl (by decide)))), rfl⟩
theorem fm_x (a b c : Int64) (n : Int) (i : Nat) : [0, a.toInt, b.toInt, c.toInt, n][fmK i]? = some (fdX a b c (23 - i)).toInt := by
  unfold fmK fdX
  by_cases h1 : i < 8
  · rw [if_pos h1, if_pos (show 16 ≤ 23 - i by omega)]
    rfl
  · rw [if_neg h1, if_neg (show ¬ 16 ≤ 23 - i by omega)]
    by_cases h2 : i < 16
    · rw [if_pos h2, if_pos (show 8 ≤ 23 - i by omega)]
      rfl
    · rw [if_neg h2, if_neg (show ¬ 8 ≤ 23 - i by omega)]
      rfl
theorem fm_loop {d : Nat} {a b c : Int64} {h0 : Ph} {T : Int} : ∀ (r : Nat) (n : Int) (cf : Cf), r ≤ 24 → 0 ≤ n → n ≤ 1000 → fdT a b c r n = T → ga HTw RGw 229 gMd h0 [0, a.toInt, b.toInt, c.toInt, n] (fmA ((24 - r : Nat) : Int)) cf → fmQ d T h0 cf := by
  intro r
  induction r with
  | zero =>
    intro n cf _ h1 h2 hT gA
    refine rn_to (vs0 := [0, a.toInt, b.toInt, c.toInt, n]) fmQ_stp (fm_nx (d := d)) (fun c hc2 vs' cf' g' hp' => ?_) 20 (fmA 24) _ cf gA ⟨[], rfl⟩ fmE_ok
    rw [List.mem_singleton.mp hc2] at g'
    obtain ⟨ws, rfl⟩ := hp'
    obtain ⟨p0, p1, p2, p3, p4, p5, p6⟩ := g'
    have := ws0 p3.1 rfl
    subst this
    have p0 : cf'.1 = 124 := p0
    obtain ⟨v, us, e5, e6, e7⟩ := gst_cons p2
    have := gst_nil e7
    subst this
    obtain ⟨y, w, rfl, y1, y2⟩ := gv_int e6 rfl
    have y1 : some n = some w := y1
    cases y1
    obtain ⟨m, w, z1, z2, z3⟩ := gf1_to (by decide) p4
    have z2 : some n = some w := z2
    cases z2
    have hm : m = y := Int32.toInt_inj.mp (by rw [z3, y2])
    subst hm
    refine ⟨0, cf', cf'.2.2.2, m, rfl, ?_, p5, p6, z1, by rw [z3, ← hT]; exact Int.add_zero n⟩
    unfold pm_res
    rw [p0, fmd124, e5]
    exact if_pos ⟨rfl, rfl⟩
  | succ r ih =>
    intro n cf hr h1 h2 hT gA
    obtain ⟨i, hie⟩ : ∃ i, 24 - (r + 1) = i := ⟨_, rfl⟩
    rw [hie] at gA
    have hi : i < 24 := by omega
    refine rn_to (vs0 := [0, a.toInt, b.toInt, c.toInt, n]) fmQ_stp (fm_nx (d := d)) (fun c0 hc2 vs' cf' g' hp' => ?_) 40 (fmA i) _ cf gA ⟨[], rfl⟩ (List.all_eq_true.mp fmK1_ok i (List.mem_range.mpr hi))
    rw [List.mem_singleton.mp hc2] at g'
    obtain ⟨ws, rfl⟩ := hp'
    obtain ⟨p0, a1, p2, p3, p4, p5, p6⟩ := g'
    have := ws0 p3.1 rfl
    subst this
    have p0 : cf'.1 = 41 := p0
    have g0 := gl_r (i := 0) (c := 172) (z := 0) a1 List.mem_cons_self
    have g1 := gl_l (i := 1) (s := 1) (x := a) a1 (List.mem_cons_of_mem _ List.mem_cons_self) rfl
    have g3 := gl_l (i := 3) (s := 2) (x := b) a1 (List.mem_cons_of_mem _ (List.mem_cons_of_mem _ List.mem_cons_self)) rfl
    have g5 := gl_l (i := 5) (s := 3) (x := c) a1 (List.mem_cons_of_mem _ (List.mem_cons_of_mem _ (List.mem_cons_of_mem _ List.mem_cons_self))) rfl
    obtain ⟨z7, g7, hz7⟩ := gl_i (i := 7) (s := 0) (o := (i : Int)) a1 (List.mem_cons_of_mem _ (List.mem_cons_of_mem _ (List.mem_cons_of_mem _ (List.mem_cons_of_mem _ List.mem_cons_self)))) rfl
    have hz7e : z7 = Int32.ofNat i := by
      apply Int32.toInt_inj.mp
      rw [Int32.toInt_ofNat_of_lt (by omega), hz7]
      omega
    subst hz7e
    have g8 := gl_l (i := 8) (s := fmK i) (x := fdX a b c (23 - i)) a1 (List.mem_append_right (fmLo i) List.mem_cons_self) (fm_x a b c n i)
    have hcf : cf' = (41, cf'.2.1, [], cf'.2.2.2) := by rw [← p0, ← gst_nil p2]
    rw [hcf]
    refine pm_It_ok (P := fmQ d T h0) fmQ_stp 13 _ _ (fm_blk hi g8 g7) ?_
    obtain ⟨s, hs⟩ : ∃ s, fdS (fdX a b c (23 - i)) (Int32.ofNat (8 * (7 - i % 8))) = s := ⟨_, rfl⟩
    obtain ⟨u, j, i1, j1, i2, j2, k1, k2, k3⟩ := fd_case (s := s) h1 h2
    obtain ⟨y, w, y1, y2, y3⟩ := gf1_to (by decide) p4
    have y2 : some n = some w := y2
    cases y2
    rw [hs]
    have gl5 : gl RGw [0, a.toInt, b.toInt, c.toInt, n, s.toInt] (fmLo i ++ [(10, (0, 5, 0))]) (pm_s1 cf'.2.1 10 (.int s)) := by
      have q := gl_s1 (RG := RGw) (vs := [0, a.toInt, b.toInt, c.toInt, n, s.toInt]) (al := fmLo i) (i := 10) (a := (0, 5, 0)) (v := .int s) (gl_cons g0 gvR (gl_cons g1 (gvL rfl) (gl_cons g3 (gvL rfl) (gl_cons g5 (gvL rfl) (gl_cons g7 ⟨rfl, 0, rfl, hz7⟩ gl_nil))))) (gvI rfl)
      intro u hu
      apply q
      simp only [sA1, fmLo, List.cons_append, List.nil_append, List.mem_cons, List.not_mem_nil, or_false] at hu ⊢
      rcases hu with rfl | rfl | rfl | rfl | rfl | rfl <;> simp
    refine rn_to (vs0 := [0, a.toInt, b.toInt, c.toInt, n, s.toInt]) fmQ_stp (fm_nx (d := d)) (fun c3 hc3 vs3 cf3 g3' hp3 => ?_) 60 (fm62 i u j) _ _ ⟨rfl, gl5, trivial, gsA ⟨i64 a, i64 b, i64 c, j2, i2, trivial⟩, gf1_of (by decide) y1 rfl y3, p5, p6⟩ ⟨[], rfl⟩ (List.all_eq_true.mp (List.all_eq_true.mp (List.all_eq_true.mp fmK2_ok i (List.mem_range.mpr hi)) u (List.mem_range.mpr i1)) j (List.mem_range.mpr j1))
    rw [List.mem_singleton.mp hc3] at g3'
    obtain ⟨ws, rfl⟩ := hp3
    obtain ⟨q0, q1, q2, q3, q4, q5, q6⟩ := g3'
    have := ws0 q3.1 rfl
    subst this
    have b0 := gl_r (i := 0) (c := 172) (z := 0) q1 List.mem_cons_self
    have b1 := gl_l (i := 1) (s := 1) (x := a) q1 (List.mem_cons_of_mem _ List.mem_cons_self) rfl
    have b3 := gl_l (i := 3) (s := 2) (x := b) q1 (List.mem_cons_of_mem _ (List.mem_cons_of_mem _ List.mem_cons_self)) rfl
    have b5 := gl_l (i := 5) (s := 3) (x := c) q1 (List.mem_cons_of_mem _ (List.mem_cons_of_mem _ (List.mem_cons_of_mem _ List.mem_cons_self))) rfl
    obtain ⟨c7, b7, hc7⟩ := gl_i (i := 7) (s := 0) (o := ((i + 1 : Nat) : Int)) q1 (List.mem_cons_of_mem _ (List.mem_cons_of_mem _ (List.mem_cons_of_mem _ (List.mem_cons_of_mem _ List.mem_cons_self)))) rfl
    obtain ⟨y', w', z1, z2, z3⟩ := gf1_to (by decide) q4
    have z2 : some n = some w' := z2
    cases z2
    have hT' : fdT a b c r (n + fdD u j) = T := by
      rw [← hT, ← k1, ← hs]
      show _ = fdT a b c r (fdN n (fdS (fdX a b c r) (Int32.ofNat (8 * (r % 8)))))
      rw [show 23 - i = r by omega, show 7 - i % 8 = r % 8 by omega]
    refine ih (n + fdD u j) cf3 (by omega) k2 k3 hT' ?_
    rw [show 24 - r = i + 1 by omega]
    exact ⟨q0, gl_cons b0 gvR (gl_cons b1 (gvL rfl) (gl_cons b3 (gvL rfl) (gl_cons b5 (gvL rfl) (gl_cons b7 ⟨rfl, 0, rfl, hc7⟩ gl_nil)))), by rw [gst_nil q2]; trivial, gsA ⟨i64 a, i64 b, i64 c, ⟨k2, k3, rfl⟩, trivial⟩, gf1_of (by decide) z1 rfl (by rw [z3]; exact (Int.add_zero _).symm), q5, q6⟩
theorem tap_len {h : Ph} {n : Int32} (hi : hI HTw RGw 229 h) (hn : pm_slot (h 172) 1 = some (.int n)) : 0 ≤ n.toInt ∧ n.toInt ≤ 1000 := by
  obtain ⟨v, h1, h2⟩ := (hi.1 172 (by decide)).2.2 (1, 2, (0, 0, 0, 1000)) (by decide) 1 (by decide) (by decide)
  rw [hn] at h1
  cases h1
  exact h2.2
theorem fm_ex {d : Nat} (hd : 1 ≤ d) {a b c : Int64} {h : Ph} {n : Int32} (hi : hI HTw RGw 229 h) (hn : pm_slot (h 172) 1 = some (.int n)) : ∃ (h' : Ph) (n' : Int32), pm_Ex mtb (xsT 229) 229 d 1434 [.ref 172, .long a, .long b, .long c] h (some (.int n')) h' ∧ hI HTw RGw 229 h' ∧ fr gMd h h' ∧ pm_slot (h' 172) 1 = some (.int n') ∧ n'.toInt = fdT a b c 24 n.toInt := by
  obtain ⟨d', rfl⟩ : ∃ d', d = d' + 1 := ⟨d - 1, by omega⟩
  obtain ⟨t1, t2⟩ := tap_len hi hn
  have hq : fmQ d' (fdT a b c 24 n.toInt) h (0, lv_args 0 [.ref 172, .long a, .long b, .long c], [], h) := by
    refine rn_to (vs0 := [0, a.toInt, b.toInt, c.toInt, n.toInt]) (h0 := h) (md := gMd) fmQ_stp (fm_nx (d := d')) (fun c0 hc2 vs' cf' g' hp' => ?_) 20 (0, [(0, (2, 172, 0)), (1, (1, 1, 0)), (3, (1, 2, 0)), (5, (1, 3, 0))], [], fxZ, [(172, 1, (0, 4, 0))]) [0, a.toInt, b.toInt, c.toInt, n.toInt] _ ⟨rfl, gl_cons rfl gvR (gl_cons rfl (gvL rfl) (gl_cons rfl (gvL rfl) (gl_cons rfl (gvL rfl) gl_nil))), trivial, gsA ⟨i64 a, i64 b, i64 c, ⟨t1, t2, rfl⟩, trivial⟩, gf1_of (by decide) hn rfl (Int.add_zero _).symm, hi, fun c j _ => rfl⟩ ⟨[], rfl⟩ fmB_ok
    rw [List.mem_singleton.mp hc2] at g'
    obtain ⟨ws, rfl⟩ := hp'
    have := ws0 g'.2.2.2.1.1 rfl
    subst this
    exact fm_loop 24 n.toInt cf' (Nat.le_refl 24) t1 t2 rfl g'
  obtain ⟨N, cf', h', n', h1, h2, h3, h4, h5, h6⟩ := hq
  exact ⟨h', n', ⟨fmM, rfl, by show 7 ≤ _; decide, N, cf', h1, h2⟩, h3, h4, h5, h6⟩
/-- both -/
def fdF (a b c : Int64) (n : Int32) : Int := fdL c 8 (fdL b 8 (fdL a 8 n.toInt))
theorem xk_feed {h : Ph} {n1 n2 : Int32} (a b c : Int64) (hk : kK h n1 n2) : ∃ (v : Int32) (h' : Ph), pm_Ex mtb (xsT 229) 229 2 1291 [.ref 0, .long a, .long b, .long c] h (some (.int v)) h' ∧ kK h' v n2 ∧ v.toInt = fdF a b c n1 := by
  obtain ⟨h', n', w1, w2, w3, w4, w5⟩ := fx_ex (d := 2) (by decide) (a := a) (b := b) (c := c) hk.1 hk.2.1
  exact ⟨n', h', w1, ⟨w2, w4, by rw [w3 172 1 (covB_ok (by decide +kernel))]; exact hk.2.2⟩, w5⟩
theorem mk_feed {h : Ph} {n1 n2 : Int32} (a b c : Int64) (hk : kK h n1 n2) : ∃ (v : Int32) (h' : Ph), pm_Ex mtb (xsT 229) 229 1 1434 [.ref 172, .long a, .long b, .long c] h (some (.int v)) h' ∧ kK h' n1 v ∧ v.toInt = fdF a b c n2 := by
  obtain ⟨h', n', w1, w2, w3, w4, w5⟩ := fm_ex (d := 1) (by decide) (a := a) (b := b) (c := c) hk.1 hk.2.2
  exact ⟨n', h', w1, ⟨w2, by rw [w3 1 0 (covB_ok (by decide +kernel))]; exact hk.2.1, w4⟩, w5⟩
