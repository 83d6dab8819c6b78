/-! lays: the law told becomes the law that stands -/
def PX11_moves : List (List (Option Op0)) := [[(some (0, 0, 0, 0, 1, [])), (some (4, 2, 0, 0, 2, [])), (some (3, 2, 0, 0, 3, [])), (some (3, 1, 0, 0, 4, [])), (some (14, 21, 3, 0, 7, [])), none, none, (some (3, 0, 2, 0, 8, [])), (some (3, 2, 0, 0, 9, [])), (some (3, 0, 2, 0, 10, [])), (some (3, 1, 0, 0, 11, [])), (some (3, 2, 0, 0, 12, [])), (some (5, 0, 0, 0, 13, [])), (some (19, 0, 0, 0, 14, [])), (some (20, 0, 0, 0, 15, [])), (some (16, 2, 0, 1, 18, []))], [none, none, (some (12, 0, 0, 0, 2, [])), none, none, (some (22, 0, 2, 0, 0, []))]]
theorem PX11_moves_ok : Pck (mtX11[65]) PX11_moves = true := by decide +kernel
def PX11_movesNames : List (List (Option Op0)) := [[(some (0, 0, 0, 0, 1, [])), (some (4, 2, 0, 0, 2, [])), (some (3, 2, 0, 0, 3, [])), (some (3, 1, 0, 0, 4, [])), (some (14, 21, 3, 0, 7, [])), none, none, (some (3, 0, 2, 0, 8, [])), (some (3, 2, 0, 0, 9, [])), (some (3, 0, 2, 0, 10, [])), (some (3, 1, 0, 0, 11, [])), (some (3, 2, 0, 0, 12, [])), (some (5, 0, 0, 0, 13, [])), (some (19, 0, 1, 0, 14, [])), (some (20, 0, 1, 0, 15, [])), (some (16, 2, 0, 1, 18, []))], [none, none, (some (12, 0, 0, 0, 2, [])), none, none, (some (22, 0, 2, 0, 0, []))]]
theorem PX11_movesNames_ok : Pck (mtX11[66]) PX11_movesNames = true := by decide +kernel
def HTw2 (c : Nat) : Hk := if c = 193 then (1, 0, 2, [(0, 2, (0, 0, 0, 2000))]) else HTw c
theorem hUw2 : ∀ r k0 k, UNw r = some k0 → k ∈ RGw r → HTw2 k = HTw2 k0 := by
  intro r k0 k h hk
  have key : (UNl.all fun q => (RGw q.1).all fun k => (HTw2 k == HTw2 q.2)) = true := by decide +kernel
  have := List.all_eq_true.mp (List.all_eq_true.mp key _ (pm_lk_mem h)) k hk
  exact eq_of_beq this
theorem HTw_193 : HTw 193 = (1, 0, 2, [(0, 1, (0, 0, 0, 1000)), (0, 2, (0, 0, 0, 2000))]) := rfl
theorem HTw2_ne {c : Nat} (h : c ≠ 193) : HTw2 c = HTw c := if_neg h
theorem hI_12 {n : Nat} {h : Ph} (g : hI HTw RGw n h) : hI HTw2 RGw n h := by
  refine ⟨fun c hc => ?_, fun hM => absurd hM (by decide)⟩
  by_cases e : c = 193
  · subst e
    have k := g.1 193 (by rw [HTw_193]; decide)
    rw [HTw_193] at k
    refine ⟨k.1, k.2.1, fun q hq => ?_⟩
    have : q = (0, 2, (0, 0, 0, 2000)) := List.mem_singleton.mp hq
    subst this
    exact k.2.2 _ (List.mem_cons_of_mem _ List.mem_cons_self)
  · rw [HTw2_ne e] at hc ⊢
    exact g.1 c hc
theorem hI_21 {n : Nat} {h : Ph} (g : hI HTw2 RGw n h) (h1 : ∃ x : Int32, pm_slot (h 193) 0 = some (.int x) ∧ 0 ≤ x.toInt ∧ x.toInt ≤ 1000) (hx : xp h ∧ yp h) : hI HTw RGw n h := by
  refine ⟨fun c hc => ?_, fun _ => hx⟩
  by_cases e : c = 193
  · subst e
    have k := g.1 193 (by decide)
    rw [HTw_193]
    refine ⟨k.1, k.2.1, fun q hq => ?_⟩
    rcases List.mem_cons.mp hq with rfl | hq
    · intro j j1 j2
      have : j = 0 := by
        have j2 : j < 1 := j2
        omega
      subst this
      obtain ⟨x, x1, x2, x3⟩ := h1
      exact ⟨_, x1, rfl, x2, x3⟩
    · exact k.2.2 q hq
  · have k := g.1 c (by rw [HTw2_ne e]; exact hc)
    rw [HTw2_ne e] at k
    exact k
theorem nsRun_shift {f g : Nat → Int} : ∀ (n a b : Nat) (st : List Bool), (∀ i, i < n → g (a + i) = f (b + i)) → nsRun g n a st = nsRun f n b st
  | 0, _, _, _, _ => rfl
  | n + 1, a, b, st, h => by
    unfold nsRun
    rw [show g a = f b from h 0 (by omega)]
    split
    · rfl
    · exact nsRun_shift n (a + 1) (b + 1) _ (fun i hi => by rw [show a + 1 + i = a + (i + 1) from by omega, show b + 1 + i = b + (i + 1) from by omega]; exact h (i + 1) (by omega))
/-- moves over the codes, exactly -/
abbrev mvM : Me := mtX11[65]
abbrev mvSt (d : Nat) : Cf → Cf → Prop := pm_Stp mtb (xsT 229) d (pm_Ex mtb (xsT 229) 229 d) mvM 229
def Cp (h0 h : Ph) (k : Nat) : Prop := (∀ c j, ¬ (c = 194 ∧ j < k) → pm_slot (h c) j = pm_slot (h0 c) j) ∧ ∀ i, i < k → pm_slot (h 194) i = pm_slot (h0 194) (1000 + i)
def mvQ (d : Nat) (h0 : Ph) (cf : Cf) : Prop := ∃ (N : Nat) (cf' : Cf) (h' : Ph), pm_It (mvSt d) N cf cf' ∧ pm_res mvM.2.2.2.1 mvM.2.1 cf' = some (none, h') ∧ hI HTw2 RGw 229 h' ∧ Cp h0 h' 1000
theorem mvQ_stp {d : Nat} {h0 : Ph} : ∀ a b, mvSt d a b → mvQ d h0 b → mvQ d h0 a := by
  intro a b h ⟨N, cf', h', h1, h2⟩
  exact ⟨N + 1, cf', h', ⟨b, h, h1⟩, h2⟩
def mvZ : Sy := [(0, 0, 0, 0, 0)]
def mvH (k : Nat) : Ab := (2, [(0, (2, 194, 0)), (1, (0, 0, 1000)), (2, (0, 0, (k : Int)))], [], mvZ, [])
def mvC (k : Nat) : Cu := ((2, [(0, (2, 194, 0)), (1, (0, 0, 1000)), (2, (0, 0, (k : Int) + 1))], [], [(0, 0, 0, 0, 0), tp32], [(194, k, (0, 1, 0)), (194, 1000 + k, (0, 1, 0))]), [(3, 0, 0), (1, 194, k)])
def mvMd (k : Nat) : Md := [(194, k, k + 1)]
def mvNx (md : Md) : Op0 → Ab → Option (List Ab) := nxA HTw2 RGw FKw UNw KCw mtb (exA HTw2 md 1 []) md 1 (fun _ => [])
def mvK (k : Nat) : Bool := rn RGw (Pt PX11_moves) (mvNx (mvMd k)) 1 10 [] [2] [(mvC k, [])] none 40 (mvH k)
def mvL (i : Nat) : List Nat := (List.range 100).map fun j => 100 * i + j
theorem mvK_0 : (mvL 0).all mvK = true := by decide +kernel
theorem mvK_1 : (mvL 1).all mvK = true := by decide +kernel
theorem mvK_2 : (mvL 2).all mvK = true := by decide +kernel
theorem mvK_3 : (mvL 3).all mvK = true := by decide +kernel
theorem mvK_4 : (mvL 4).all mvK = true := by decide +kernel
theorem mvK_5 : (mvL 5).all mvK = true := by decide +kernel
theorem mvK_6 : (mvL 6).all mvK = true := by decide +kernel
theorem mvK_7 : (mvL 7).all mvK = true := by decide +kernel
theorem mvK_8 : (mvL 8).all mvK = true := by decide +kernel
theorem mvK_9 : (mvL 9).all mvK = true := by decide +kernel
theorem mvK_ok (k : Nat) (hk : k < 1000) : mvK k = true := by
  have hm : ∀ i, k / 100 = i → k ∈ mvL i := fun i hi => List.mem_map.mpr ⟨k % 100, List.mem_range.mpr (by omega), by omega⟩
  have : k / 100 = 0 ∨ k / 100 = 1 ∨ k / 100 = 2 ∨ k / 100 = 3 ∨ k / 100 = 4 ∨ k / 100 = 5 ∨ k / 100 = 6 ∨ k / 100 = 7 ∨ k / 100 = 8 ∨ k / 100 = 9 := by omega
  rcases this with e | e | e | e | e | e | e | e | e | e
  · exact List.all_eq_true.mp mvK_0 k (hm _ e)
  · exact List.all_eq_true.mp mvK_1 k (hm _ e)
  · exact List.all_eq_true.mp mvK_2 k (hm _ e)
  · exact List.all_eq_true.mp mvK_3 k (hm _ e)
  · exact List.all_eq_true.mp mvK_4 k (hm _ e)
  · exact List.all_eq_true.mp mvK_5 k (hm _ e)
  · exact List.all_eq_true.mp mvK_6 k (hm _ e)
  · exact List.all_eq_true.mp mvK_7 k (hm _ e)
  · exact List.all_eq_true.mp mvK_8 k (hm _ e)
  · exact List.all_eq_true.mp mvK_9 k (hm _ e)
def mvE : Cu := ((21, [], [], mvZ, []), [(3, 0, 0)])
def mvF : Bool := rn RGw (Pt PX11_moves) (mvNx []) 1 10 [] [21] [(mvE, [])] none 40 (mvH 1000)
theorem mvF_ok : mvF = true := by decide +kernel
def mv0 : Ab := (0, [(0, (2, 194, 0)), (1, (0, 0, 1000))], [], mvZ, [])
def mvS : Bool := rn RGw (Pt PX11_moves) (mvNx []) 1 10 [] [2] [((mvH 0, [(3, 0, 0)]), [])] none 40 mv0
theorem mvS_ok : mvS = true := by decide +kernel
theorem mv_nx {d : Nat} {md : Md} {h0 : Ph} : ∀ o A Bs vs cf, ga HTw2 RGw 229 md h0 vs A cf → Pt PX11_moves A.1 = some o → o.1 ≠ 22 → mvNx md o A = some Bs → ∃ cf', mvSt d cf cf' ∧ ∃ B ∈ Bs, ∃ ws, ga HTw2 RGw 229 md h0 (vs ++ ws) B cf' :=
  nxA_ok (me := mvM) (by decide) hUw2 hKCw (fun _ _ _ _ _ _ _ _ _ z a b c d e => exA_ok (hlv := z) (me := mvM) (fun q hq => by cases hq) a b c d e) (Pck_ok PX11_moves_ok) (fun _ _ h => by cases h) (by omega)
theorem fr_nil {h h' : Ph} (f : fr [] h h') : ∀ c j, pm_slot (h' c) j = pm_slot (h c) j := fun c j => f c j (fun ⟨m, hm, _⟩ => by cases hm)
theorem mv_slot {vs : List Int} {fa : Fa} {h : Ph} {c j : Nat} {a : Av} (hj : j < 4294967295) (g : gf RGw vs fa h) (hq : (c, j, a) ∈ fa) (h0 : a.1 = 0) : ∃ (x : Int32) (w : Int), pm_slot (h c) j = some (.int x) ∧ vs[a.2.1]? = some w ∧ x.toInt = w + a.2.2 := by
  obtain ⟨i, v, e0, e1, e2⟩ := gf1_v (g _ hq) (by show j ≠ 4294967295; omega)
  obtain ⟨x, w, rfl, w1, w2⟩ := gv_int e2 h0
  have hi : i = j := by
    rcases e0 with ⟨-, e0⟩ | ⟨e0, -⟩
    · exact e0
    · have e0 : 4294967296 ≤ j := e0
      omega
  subst hi
  exact ⟨x, w, e1, w1, w2⟩
theorem mv_loop {d : Nat} {h0 : Ph} : ∀ (m k : Nat) (cf : Cf), k + m = 1000 → (∀ md, ga HTw2 RGw 229 md cf.2.2.2 [0] (mvH k) cf) → Cp h0 cf.2.2.2 k → mvQ d h0 cf := by
  intro m
  induction m with
  | zero =>
    intro k cf hk g hc
    have hk : k = 1000 := by omega
    subst hk
    refine rn_to (vs0 := [0]) mvQ_stp (mv_nx (d := d)) (fun c hc2 vs' cf' g' hp => ?_) 40 _ _ cf (g []) ⟨[], rfl⟩ mvF_ok
    rw [List.mem_singleton.mp hc2] at g'
    obtain ⟨p0, p1, p2, p3, p4, p5, p6⟩ := g'
    have p0 : cf'.1 = 21 := p0
    have p2 := gst_nil p2
    have es := fr_nil p6
    obtain ⟨ins, len, hd, hr⟩ := Pck_ok PX11_moves_ok 21 (22, 0, 2, 0, 0, []) rfl
    obtain ⟨hl, hi⟩ := rop_ret hr rfl
    subst hl
    have hi : ins = .return_ := by
      rcases hi with ⟨-, hb⟩ | ⟨-, hb⟩ | ⟨hb, -⟩
      · cases hb
      · cases hb
      · exact hb
    subst hi
    refine ⟨0, cf', cf'.2.2.2, rfl, ?_, p5, ?_, ?_⟩
    · unfold pm_res
      rw [p0, hd, p2]
      rfl
    · intro c j hcj
      rw [es c j]
      exact hc.1 c j hcj
    · intro i hi
      rw [es 194 i]
      exact hc.2 i hi
  | succ m ih =>
    intro k cf hk g hc
    refine rn_to (vs0 := [0]) mvQ_stp (mv_nx (d := d)) (fun c hc2 vs' cf' g' hp => ?_) 40 _ _ cf (g (mvMd k)) ⟨[], rfl⟩ (mvK_ok k (by omega))
    rw [List.mem_singleton.mp hc2] at g'
    obtain ⟨p0, p1, p2, p3, p4, p5, p6⟩ := g'
    obtain ⟨ws, rfl⟩ := hp
    have hlen := p3.1
    match ws, hlen with
    | [gam], _ =>
    obtain ⟨x, w, x1, x2, x3⟩ := mv_slot (by omega) p4 (List.mem_cons_self) rfl
    obtain ⟨y, w', y1, y2, y3⟩ := mv_slot (by omega) p4 (List.mem_cons_of_mem _ List.mem_cons_self) rfl
    have x2 : some gam = some w := x2
    have y2 : some gam = some w' := y2
    cases x2
    cases y2
    have exy : x = y := Int32.toInt_inj.mp (by rw [x3, y3])
    subst exy
    have hf : ∀ c j, ¬ (c = 194 ∧ j = k) → pm_slot (cf'.2.2.2 c) j = pm_slot (cf.2.2.2 c) j := fun c j hcj => p6 c j (fun ⟨m0, hm, h1, h2, h3⟩ => hcj (by
      have := List.mem_singleton.mp hm
      subst this
      have h1 : (194 : Nat) = c := h1
      have h2 : k ≤ j := h2
      have h3 : j < k + 1 := h3
      exact ⟨h1.symm, by omega⟩))
    refine ih (k + 1) cf' (by omega) (fun md => ⟨p0, ?_, by rw [gst_nil p2]; trivial, ⟨rfl, rfl, ?_⟩, fun q hq => (by cases hq), p5, fun c j _ => rfl⟩) ⟨fun c j hcj => ?_, fun i hi => ?_⟩
    · intro z hz
      rcases List.mem_cons.mp hz with rfl | hz
      · exact p1 _ List.mem_cons_self
      rcases List.mem_cons.mp hz with rfl | hz
      · obtain ⟨vv, z1, z2⟩ := p1 (1, (0, 0, 1000)) (List.mem_cons_of_mem _ List.mem_cons_self)
        obtain ⟨xx, ww, rfl, z3, z4⟩ := gv_int z2 rfl
        have z3 : some (0 : Int) = some ww := z3
        cases z3
        exact ⟨_, z1, rfl, 0, rfl, z4⟩
      rcases List.mem_cons.mp hz with rfl | hz
      · obtain ⟨vv, z1, z2⟩ := p1 (2, (0, 0, (k : Int) + 1)) (List.mem_cons_of_mem _ (List.mem_cons_of_mem _ List.mem_cons_self))
        obtain ⟨xx, ww, rfl, z3, z4⟩ := gv_int z2 rfl
        have z3 : some (0 : Int) = some ww := z3
        cases z3
        exact ⟨_, z1, rfl, 0, rfl, by show xx.toInt = 0 + ((k + 1 : Nat) : Int); rw [Int.natCast_add]; exact z4⟩
      · cases hz
    · intro s e w2 he hw2
      match s, he, hw2 with
      | 0, he, hw2 =>
        cases he
        cases hw2
        exact ⟨Int.le_refl 0, Int.le_refl 0, Or.inl rfl⟩
    · rw [hf c j (fun e => hcj ⟨e.1, by omega⟩)]
      exact hc.1 c j (fun e => hcj ⟨e.1, by omega⟩)
    · by_cases hik : i = k
      · subst hik
        rw [x1, ← y1, hf 194 (1000 + i) (fun e => by omega)]
        exact hc.1 194 (1000 + i) (fun e => by omega)
      · rw [hf 194 i (fun e => hik e.2)]
        exact hc.2 i (by omega)
theorem mv_ex {d : Nat} (hd : 1 ≤ d) {x : Int32} {h : Ph} (hx : x.toInt = 1000) (g : hI HTw2 RGw 229 h) : ∃ h', pm_Ex mtb (xsT 229) 229 d 1473 [.ref 194, .int x] h none h' ∧ hI HTw2 RGw 229 h' ∧ Cp h h' 1000 := by
  obtain ⟨d', rfl⟩ : ∃ d', d = d' + 1 := ⟨d - 1, by omega⟩
  have gz : gs mvZ [0] := ⟨rfl, rfl, fun s e w he hw => by
    match s, he, hw with
    | 0, he, hw =>
      cases he
      cases hw
      exact ⟨Int.le_refl 0, Int.le_refl 0, Or.inl rfl⟩⟩
  have hq : mvQ d' h (0, lv_args 0 [.ref 194, .int x], [], h) := by
    refine rn_to (vs0 := [0]) (h0 := h) (md := []) mvQ_stp (mv_nx (d := d')) (fun c hc2 vs' cf' g' hp => ?_) 40 mv0 [0] _ ⟨rfl, ?_, trivial, gz, fun q hq => (by cases hq), g, fun c j _ => rfl⟩ ⟨[], rfl⟩ mvS_ok
    · rw [List.mem_singleton.mp hc2] at g'
      obtain ⟨p0, p1, p2, p3, p4, p5, p6⟩ := g'
      obtain ⟨ws, rfl⟩ := hp
      have hlen := p3.1
      match ws, hlen with
      | [], _ =>
      exact mv_loop 1000 0 cf' rfl (fun md => ⟨p0, p1, p2, p3, p4, p5, fun c j _ => rfl⟩) ⟨fun c j _ => fr_nil p6 c j, fun i hi => absurd hi (by omega)⟩
    · intro z hz
      rcases List.mem_cons.mp hz with rfl | hz
      · exact ⟨.ref 194, rfl, Or.inl ⟨rfl, rfl⟩⟩
      rcases List.mem_cons.mp hz with rfl | hz
      · exact ⟨.int x, rfl, rfl, 0, rfl, by show x.toInt = 0 + 1000; omega⟩
      · cases hz
  obtain ⟨N, cf', h', h1, h2, h3, h4⟩ := hq
  exact ⟨h', ⟨mvM, rfl, by show 2 ≤ _; decide, N, cf', h1, h2⟩, h3, h4⟩
def cx1153 : Cx := (1473, 1, 2, [(174, 0, 1), (174, 1, 2), (174, 2, 3), (174, 3, 4), (174, 4, 5), (174, 5, 6), (174, 6, 7)], ((0, [(0, (2, 174, 0)), (1, (0, 0, 7))], [], [(0, 0, 0, 0, 0)], []), [(3, 0, 0)]), [((0, [], [], [(0, 0, 0, 0, 0)], []), [(3, 0, 0)])])
def ct1153 : List (Cu × Rk) := [(((2, [(0, (2, 174, 0)), (1, (0, 0, 7)), (2, (0, 0, 0))], [], [(0, 0, 0, 0, 0)], []), [(3, 0, 0)]), [(0, 0, 7)]),
  (((2, [(0, (2, 174, 0)), (1, (0, 0, 7)), (2, (0, 0, 1))], [], [(0, 0, 0, 0, 0)], []), [(3, 0, 0)]), [(0, 0, 6)]),
  (((2, [(0, (2, 174, 0)), (1, (0, 0, 7)), (2, (0, 0, 2))], [], [(0, 0, 0, 0, 0)], []), [(3, 0, 0)]), [(0, 0, 5)]),
  (((2, [(0, (2, 174, 0)), (1, (0, 0, 7)), (2, (0, 0, 3))], [], [(0, 0, 0, 0, 0)], []), [(3, 0, 0)]), [(0, 0, 4)]),
  (((2, [(0, (2, 174, 0)), (1, (0, 0, 7)), (2, (0, 0, 4))], [], [(0, 0, 0, 0, 0)], []), [(3, 0, 0)]), [(0, 0, 3)]),
  (((2, [(0, (2, 174, 0)), (1, (0, 0, 7)), (2, (0, 0, 5))], [], [(0, 0, 0, 0, 0)], []), [(3, 0, 0)]), [(0, 0, 2)]),
  (((2, [(0, (2, 174, 0)), (1, (0, 0, 7)), (2, (0, 0, 6))], [], [(0, 0, 0, 0, 0)], []), [(3, 0, 0)]), [(0, 0, 1)]),
  (((2, [(0, (2, 174, 0)), (1, (0, 0, 7)), (2, (0, 0, 7))], [], [(0, 0, 0, 0, 0)], []), [(3, 0, 0)]), [(0, 0, 0)])]
theorem hd1153 : Hd HTw2 RGw 229 mtb (xsT 229) cx1153 := chk_ok (FK := FKw) (me := mtX11[65]) (EX := exA HTw2 cx1153.2.2.2.1 cx1153.2.1 exX11) (P := Pt PX11_moves) (cs := fun _ => []) (f := 600) (pcs := [2]) (cuts := ct1153) (by decide) hUw2 hKCw (fun _ _ _ _ _ _ _ _ _ z a b c d e => exA_ok (lv := cx1153.2.1) (hlv := z) (me := mtX11[65]) exX11_ok a b c d e) rfl (Pck_ok PX11_moves_ok) (fun _ => (List.forall_mem_nil _)) (by decide +kernel)
def cx1154 : Cx := (1473, 1, 2, [(179, 0, 10)], ((0, [(0, (2, 179, 0)), (1, (0, 0, 5))], [], [(0, 0, 0, 0, 0)], []), [(3, 0, 0)]), [((0, [], [], [(0, 0, 0, 0, 0)], []), [(3, 0, 0)])])
def ct1154 : List (Cu × Rk) := [(((2, [(0, (2, 179, 0)), (1, (0, 0, 5)), (2, (0, 1, 0))], [], [(0, 0, 0, 0, 0), (0, 5, 0, 0, 0)], []), [(3, 0, 0), (0, 2, 0)]), [(0, 0, 0), (1, 1, 5), (0, 0, 0)])]
theorem hd1154 : Hd HTw2 RGw 229 mtb (xsT 229) cx1154 := chk_ok (FK := FKw) (me := mtX11[65]) (EX := exA HTw2 cx1154.2.2.2.1 cx1154.2.1 exX11) (P := Pt PX11_moves) (cs := fun _ => []) (f := 600) (pcs := [2]) (cuts := ct1154) (by decide) hUw2 hKCw (fun _ _ _ _ _ _ _ _ _ z a b c d e => exA_ok (lv := cx1154.2.1) (hlv := z) (me := mtX11[65]) exX11_ok a b c d e) rfl (Pck_ok PX11_moves_ok) (fun _ => (List.forall_mem_nil _)) (by decide +kernel)
def cx1155 : Cx := (1473, 1, 2, [(180, 0, 20)], ((0, [(0, (2, 180, 0)), (1, (0, 0, 10))], [], [(0, 0, 0, 0, 0)], []), [(3, 0, 0)]), [((0, [], [], [(0, 0, 0, 0, 0)], []), [(3, 0, 0)])])
def ct1155 : List (Cu × Rk) := [(((2, [(0, (2, 180, 0)), (1, (0, 0, 10)), (2, (0, 1, 0))], [], [(0, 0, 0, 0, 0), (0, 10, 0, 0, 0)], []), [(3, 0, 0), (0, 2, 0)]), [(0, 0, 0), (1, 1, 10), (0, 0, 0)])]
theorem hd1155 : Hd HTw2 RGw 229 mtb (xsT 229) cx1155 := chk_ok (FK := FKw) (me := mtX11[65]) (EX := exA HTw2 cx1155.2.2.2.1 cx1155.2.1 exX11) (P := Pt PX11_moves) (cs := fun _ => []) (f := 600) (pcs := [2]) (cuts := ct1155) (by decide) hUw2 hKCw (fun _ _ _ _ _ _ _ _ _ z a b c d e => exA_ok (lv := cx1155.2.1) (hlv := z) (me := mtX11[65]) exX11_ok a b c d e) rfl (Pck_ok PX11_moves_ok) (fun _ => (List.forall_mem_nil _)) (by decide +kernel)
def cx1156 : Cx := (1473, 1, 2, [(181, 0, 20)], ((0, [(0, (2, 181, 0)), (1, (0, 0, 10))], [], [(0, 0, 0, 0, 0)], []), [(3, 0, 0)]), [((0, [], [], [(0, 0, 0, 0, 0)], []), [(3, 0, 0)])])
def ct1156 : List (Cu × Rk) := [(((2, [(0, (2, 181, 0)), (1, (0, 0, 10)), (2, (0, 1, 0))], [], [(0, 0, 0, 0, 0), (0, 10, 0, 0, 0)], []), [(3, 0, 0), (0, 2, 0)]), [(0, 0, 0), (1, 1, 10), (0, 0, 0)])]
theorem hd1156 : Hd HTw2 RGw 229 mtb (xsT 229) cx1156 := chk_ok (FK := FKw) (me := mtX11[65]) (EX := exA HTw2 cx1156.2.2.2.1 cx1156.2.1 exX11) (P := Pt PX11_moves) (cs := fun _ => []) (f := 600) (pcs := [2]) (cuts := ct1156) (by decide) hUw2 hKCw (fun _ _ _ _ _ _ _ _ _ z a b c d e => exA_ok (lv := cx1156.2.1) (hlv := z) (me := mtX11[65]) exX11_ok a b c d e) rfl (Pck_ok PX11_moves_ok) (fun _ => (List.forall_mem_nil _)) (by decide +kernel)
def cx1157 : Cx := (1473, 1, 2, [(182, 0, 20)], ((0, [(0, (2, 182, 0)), (1, (0, 0, 10))], [], [(0, 0, 0, 0, 0)], []), [(3, 0, 0)]), [((0, [], [], [(0, 0, 0, 0, 0)], []), [(3, 0, 0)])])
def ct1157 : List (Cu × Rk) := [(((2, [(0, (2, 182, 0)), (1, (0, 0, 10)), (2, (0, 1, 0))], [], [(0, 0, 0, 0, 0), (0, 10, 0, 0, 0)], []), [(3, 0, 0), (0, 2, 0)]), [(0, 0, 0), (1, 1, 10), (0, 0, 0)])]
theorem hd1157 : Hd HTw2 RGw 229 mtb (xsT 229) cx1157 := chk_ok (FK := FKw) (me := mtX11[65]) (EX := exA HTw2 cx1157.2.2.2.1 cx1157.2.1 exX11) (P := Pt PX11_moves) (cs := fun _ => []) (f := 600) (pcs := [2]) (cuts := ct1157) (by decide) hUw2 hKCw (fun _ _ _ _ _ _ _ _ _ z a b c d e => exA_ok (lv := cx1157.2.1) (hlv := z) (me := mtX11[65]) exX11_ok a b c d e) rfl (Pck_ok PX11_moves_ok) (fun _ => (List.forall_mem_nil _)) (by decide +kernel)
def cx1158 : Cx := (1473, 1, 2, [(183, 0, 20)], ((0, [(0, (2, 183, 0)), (1, (0, 0, 10))], [], [(0, 0, 0, 0, 0)], []), [(3, 0, 0)]), [((0, [], [], [(0, 0, 0, 0, 0)], []), [(3, 0, 0)])])
def ct1158 : List (Cu × Rk) := [(((2, [(0, (2, 183, 0)), (1, (0, 0, 10)), (2, (0, 1, 0))], [], [(0, 0, 0, 0, 0), (0, 10, 0, 0, 0)], []), [(3, 0, 0), (0, 2, 0)]), [(0, 0, 0), (1, 1, 10), (0, 0, 0)])]
theorem hd1158 : Hd HTw2 RGw 229 mtb (xsT 229) cx1158 := chk_ok (FK := FKw) (me := mtX11[65]) (EX := exA HTw2 cx1158.2.2.2.1 cx1158.2.1 exX11) (P := Pt PX11_moves) (cs := fun _ => []) (f := 600) (pcs := [2]) (cuts := ct1158) (by decide) hUw2 hKCw (fun _ _ _ _ _ _ _ _ _ z a b c d e => exA_ok (lv := cx1158.2.1) (hlv := z) (me := mtX11[65]) exX11_ok a b c d e) rfl (Pck_ok PX11_moves_ok) (fun _ => (List.forall_mem_nil _)) (by decide +kernel)
def cx1159 : Cx := (1473, 1, 2, [(184, 0, 8)], ((0, [(0, (2, 184, 0)), (1, (0, 0, 4))], [], [(0, 0, 0, 0, 0)], []), [(3, 0, 0)]), [((0, [], [], [(0, 0, 0, 0, 0)], []), [(3, 0, 0)])])
def ct1159 : List (Cu × Rk) := [(((2, [(0, (2, 184, 0)), (1, (0, 0, 4)), (2, (0, 1, 0))], [], [(0, 0, 0, 0, 0), (0, 4, 0, 0, 0)], []), [(3, 0, 0), (0, 2, 0)]), [(0, 0, 0), (1, 1, 4), (0, 0, 0)])]
theorem hd1159 : Hd HTw2 RGw 229 mtb (xsT 229) cx1159 := chk_ok (FK := FKw) (me := mtX11[65]) (EX := exA HTw2 cx1159.2.2.2.1 cx1159.2.1 exX11) (P := Pt PX11_moves) (cs := fun _ => []) (f := 600) (pcs := [2]) (cuts := ct1159) (by decide) hUw2 hKCw (fun _ _ _ _ _ _ _ _ _ z a b c d e => exA_ok (lv := cx1159.2.1) (hlv := z) (me := mtX11[65]) exX11_ok a b c d e) rfl (Pck_ok PX11_moves_ok) (fun _ => (List.forall_mem_nil _)) (by decide +kernel)
def cx1160 : Cx := (1473, 1, 2, [(185, 0, 8)], ((0, [(0, (2, 185, 0)), (1, (0, 0, 4))], [], [(0, 0, 0, 0, 0)], []), [(3, 0, 0)]), [((0, [], [], [(0, 0, 0, 0, 0)], []), [(3, 0, 0)])])
def ct1160 : List (Cu × Rk) := [(((2, [(0, (2, 185, 0)), (1, (0, 0, 4)), (2, (0, 1, 0))], [], [(0, 0, 0, 0, 0), (0, 4, 0, 0, 0)], []), [(3, 0, 0), (0, 2, 0)]), [(0, 0, 0), (1, 1, 4), (0, 0, 0)])]
theorem hd1160 : Hd HTw2 RGw 229 mtb (xsT 229) cx1160 := chk_ok (FK := FKw) (me := mtX11[65]) (EX := exA HTw2 cx1160.2.2.2.1 cx1160.2.1 exX11) (P := Pt PX11_moves) (cs := fun _ => []) (f := 600) (pcs := [2]) (cuts := ct1160) (by decide) hUw2 hKCw (fun _ _ _ _ _ _ _ _ _ z a b c d e => exA_ok (lv := cx1160.2.1) (hlv := z) (me := mtX11[65]) exX11_ok a b c d e) rfl (Pck_ok PX11_moves_ok) (fun _ => (List.forall_mem_nil _)) (by decide +kernel)
def cx1161 : Cx := (1473, 1, 2, [(186, 0, 10)], ((0, [(0, (2, 186, 0)), (1, (0, 0, 5))], [], [(0, 0, 0, 0, 0)], []), [(3, 0, 0)]), [((0, [], [], [(0, 0, 0, 0, 0)], []), [(3, 0, 0)])])
def ct1161 : List (Cu × Rk) := [(((2, [(0, (2, 186, 0)), (1, (0, 0, 5)), (2, (0, 1, 0))], [], [(0, 0, 0, 0, 0), (0, 5, 0, 0, 0)], []), [(3, 0, 0), (0, 2, 0)]), [(0, 0, 0), (1, 1, 5), (0, 0, 0)])]
theorem hd1161 : Hd HTw2 RGw 229 mtb (xsT 229) cx1161 := chk_ok (FK := FKw) (me := mtX11[65]) (EX := exA HTw2 cx1161.2.2.2.1 cx1161.2.1 exX11) (P := Pt PX11_moves) (cs := fun _ => []) (f := 600) (pcs := [2]) (cuts := ct1161) (by decide) hUw2 hKCw (fun _ _ _ _ _ _ _ _ _ z a b c d e => exA_ok (lv := cx1161.2.1) (hlv := z) (me := mtX11[65]) exX11_ok a b c d e) rfl (Pck_ok PX11_moves_ok) (fun _ => (List.forall_mem_nil _)) (by decide +kernel)
def cx1162 : Cx := (1473, 1, 2, [(187, 0, 10)], ((0, [(0, (2, 187, 0)), (1, (0, 0, 5))], [], [(0, 0, 0, 0, 0)], []), [(3, 0, 0)]), [((0, [], [], [(0, 0, 0, 0, 0)], []), [(3, 0, 0)])])
def ct1162 : List (Cu × Rk) := [(((2, [(0, (2, 187, 0)), (1, (0, 0, 5)), (2, (0, 1, 0))], [], [(0, 0, 0, 0, 0), (0, 5, 0, 0, 0)], []), [(3, 0, 0), (0, 2, 0)]), [(0, 0, 0), (1, 1, 5), (0, 0, 0)])]
theorem hd1162 : Hd HTw2 RGw 229 mtb (xsT 229) cx1162 := chk_ok (FK := FKw) (me := mtX11[65]) (EX := exA HTw2 cx1162.2.2.2.1 cx1162.2.1 exX11) (P := Pt PX11_moves) (cs := fun _ => []) (f := 600) (pcs := [2]) (cuts := ct1162) (by decide) hUw2 hKCw (fun _ _ _ _ _ _ _ _ _ z a b c d e => exA_ok (lv := cx1162.2.1) (hlv := z) (me := mtX11[65]) exX11_ok a b c d e) rfl (Pck_ok PX11_moves_ok) (fun _ => (List.forall_mem_nil _)) (by decide +kernel)
def cx1163 : Cx := (1473, 1, 2, [(188, 0, 10)], ((0, [(0, (2, 188, 0)), (1, (0, 0, 5))], [], [(0, 0, 0, 0, 0)], []), [(3, 0, 0)]), [((0, [], [], [(0, 0, 0, 0, 0)], []), [(3, 0, 0)])])
def ct1163 : List (Cu × Rk) := [(((2, [(0, (2, 188, 0)), (1, (0, 0, 5)), (2, (0, 1, 0))], [], [(0, 0, 0, 0, 0), (0, 5, 0, 0, 0)], []), [(3, 0, 0), (0, 2, 0)]), [(0, 0, 0), (1, 1, 5), (0, 0, 0)])]
theorem hd1163 : Hd HTw2 RGw 229 mtb (xsT 229) cx1163 := chk_ok (FK := FKw) (me := mtX11[65]) (EX := exA HTw2 cx1163.2.2.2.1 cx1163.2.1 exX11) (P := Pt PX11_moves) (cs := fun _ => []) (f := 600) (pcs := [2]) (cuts := ct1163) (by decide) hUw2 hKCw (fun _ _ _ _ _ _ _ _ _ z a b c d e => exA_ok (lv := cx1163.2.1) (hlv := z) (me := mtX11[65]) exX11_ok a b c d e) rfl (Pck_ok PX11_moves_ok) (fun _ => (List.forall_mem_nil _)) (by decide +kernel)
def cx1164 : Cx := (1473, 1, 2, [(189, 0, 10)], ((0, [(0, (2, 189, 0)), (1, (0, 0, 5))], [], [(0, 0, 0, 0, 0)], []), [(3, 0, 0)]), [((0, [], [], [(0, 0, 0, 0, 0)], []), [(3, 0, 0)])])
def ct1164 : List (Cu × Rk) := [(((2, [(0, (2, 189, 0)), (1, (0, 0, 5)), (2, (0, 1, 0))], [], [(0, 0, 0, 0, 0), (0, 5, 0, 0, 0)], []), [(3, 0, 0), (0, 2, 0)]), [(0, 0, 0), (1, 1, 5), (0, 0, 0)])]
theorem hd1164 : Hd HTw2 RGw 229 mtb (xsT 229) cx1164 := chk_ok (FK := FKw) (me := mtX11[65]) (EX := exA HTw2 cx1164.2.2.2.1 cx1164.2.1 exX11) (P := Pt PX11_moves) (cs := fun _ => []) (f := 600) (pcs := [2]) (cuts := ct1164) (by decide) hUw2 hKCw (fun _ _ _ _ _ _ _ _ _ z a b c d e => exA_ok (lv := cx1164.2.1) (hlv := z) (me := mtX11[65]) exX11_ok a b c d e) rfl (Pck_ok PX11_moves_ok) (fun _ => (List.forall_mem_nil _)) (by decide +kernel)
def cx1165 : Cx := (1473, 1, 2, [(190, 0, 8)], ((0, [(0, (2, 190, 0)), (1, (0, 0, 4))], [], [(0, 0, 0, 0, 0)], []), [(3, 0, 0)]), [((0, [], [], [(0, 0, 0, 0, 0)], []), [(3, 0, 0)])])
def ct1165 : List (Cu × Rk) := [(((2, [(0, (2, 190, 0)), (1, (0, 0, 4)), (2, (0, 1, 0))], [], [(0, 0, 0, 0, 0), (0, 4, 0, 0, 0)], []), [(3, 0, 0), (0, 2, 0)]), [(0, 0, 0), (1, 1, 4), (0, 0, 0)])]
theorem hd1165 : Hd HTw2 RGw 229 mtb (xsT 229) cx1165 := chk_ok (FK := FKw) (me := mtX11[65]) (EX := exA HTw2 cx1165.2.2.2.1 cx1165.2.1 exX11) (P := Pt PX11_moves) (cs := fun _ => []) (f := 600) (pcs := [2]) (cuts := ct1165) (by decide) hUw2 hKCw (fun _ _ _ _ _ _ _ _ _ z a b c d e => exA_ok (lv := cx1165.2.1) (hlv := z) (me := mtX11[65]) exX11_ok a b c d e) rfl (Pck_ok PX11_moves_ok) (fun _ => (List.forall_mem_nil _)) (by decide +kernel)
def cx1166 : Cx := (1473, 1, 2, [(191, 0, 8)], ((0, [(0, (2, 191, 0)), (1, (0, 0, 4))], [], [(0, 0, 0, 0, 0)], []), [(3, 0, 0)]), [((0, [], [], [(0, 0, 0, 0, 0)], []), [(3, 0, 0)])])
def ct1166 : List (Cu × Rk) := [(((2, [(0, (2, 191, 0)), (1, (0, 0, 4)), (2, (0, 1, 0))], [], [(0, 0, 0, 0, 0), (0, 4, 0, 0, 0)], []), [(3, 0, 0), (0, 2, 0)]), [(0, 0, 0), (1, 1, 4), (0, 0, 0)])]
theorem hd1166 : Hd HTw2 RGw 229 mtb (xsT 229) cx1166 := chk_ok (FK := FKw) (me := mtX11[65]) (EX := exA HTw2 cx1166.2.2.2.1 cx1166.2.1 exX11) (P := Pt PX11_moves) (cs := fun _ => []) (f := 600) (pcs := [2]) (cuts := ct1166) (by decide) hUw2 hKCw (fun _ _ _ _ _ _ _ _ _ z a b c d e => exA_ok (lv := cx1166.2.1) (hlv := z) (me := mtX11[65]) exX11_ok a b c d e) rfl (Pck_ok PX11_moves_ok) (fun _ => (List.forall_mem_nil _)) (by decide +kernel)
def cx1167 : Cx := (1474, 1, 2, [(175, 0, 10)], ((0, [(0, (2, 175, 0)), (1, (0, 0, 5))], [], [(0, 0, 0, 0, 0)], []), [(3, 0, 0)]), [((0, [], [], [(0, 0, 0, 0, 0)], []), [(3, 0, 0)])])
def ct1167 : List (Cu × Rk) := [(((2, [(0, (2, 175, 0)), (1, (0, 0, 5)), (2, (0, 1, 0))], [], [(0, 0, 0, 0, 0), (0, 5, 0, 0, 0)], []), [(3, 0, 0), (0, 2, 0)]), [(0, 0, 0), (1, 1, 5), (0, 0, 0)])]
theorem hd1167 : Hd HTw2 RGw 229 mtb (xsT 229) cx1167 := chk_ok (FK := FKw) (me := mtX11[66]) (EX := exA HTw2 cx1167.2.2.2.1 cx1167.2.1 exX11) (P := Pt PX11_movesNames) (cs := fun _ => []) (f := 600) (pcs := [2]) (cuts := ct1167) (by decide) hUw2 hKCw (fun _ _ _ _ _ _ _ _ _ z a b c d e => exA_ok (lv := cx1167.2.1) (hlv := z) (me := mtX11[66]) exX11_ok a b c d e) rfl (Pck_ok PX11_movesNames_ok) (fun _ => (List.forall_mem_nil _)) (by decide +kernel)
def cx1168 : Cx := (1474, 1, 2, [(176, 0, 8)], ((0, [(0, (2, 176, 0)), (1, (0, 0, 4))], [], [(0, 0, 0, 0, 0)], []), [(3, 0, 0)]), [((0, [], [], [(0, 0, 0, 0, 0)], []), [(3, 0, 0)])])
def ct1168 : List (Cu × Rk) := [(((2, [(0, (2, 176, 0)), (1, (0, 0, 4)), (2, (0, 1, 0))], [], [(0, 0, 0, 0, 0), (0, 4, 0, 0, 0)], []), [(3, 0, 0), (0, 2, 0)]), [(0, 0, 0), (1, 1, 4), (0, 0, 0)])]
theorem hd1168 : Hd HTw2 RGw 229 mtb (xsT 229) cx1168 := chk_ok (FK := FKw) (me := mtX11[66]) (EX := exA HTw2 cx1168.2.2.2.1 cx1168.2.1 exX11) (P := Pt PX11_movesNames) (cs := fun _ => []) (f := 600) (pcs := [2]) (cuts := ct1168) (by decide) hUw2 hKCw (fun _ _ _ _ _ _ _ _ _ z a b c d e => exA_ok (lv := cx1168.2.1) (hlv := z) (me := mtX11[66]) exX11_ok a b c d e) rfl (Pck_ok PX11_movesNames_ok) (fun _ => (List.forall_mem_nil _)) (by decide +kernel)
def cx1169 : Cx := (1474, 1, 2, [(177, 0, 10)], ((0, [(0, (2, 177, 0)), (1, (0, 0, 5))], [], [(0, 0, 0, 0, 0)], []), [(3, 0, 0)]), [((0, [], [], [(0, 0, 0, 0, 0)], []), [(3, 0, 0)])])
def ct1169 : List (Cu × Rk) := [(((2, [(0, (2, 177, 0)), (1, (0, 0, 5)), (2, (0, 1, 0))], [], [(0, 0, 0, 0, 0), (0, 5, 0, 0, 0)], []), [(3, 0, 0), (0, 2, 0)]), [(0, 0, 0), (1, 1, 5), (0, 0, 0)])]
theorem hd1169 : Hd HTw2 RGw 229 mtb (xsT 229) cx1169 := chk_ok (FK := FKw) (me := mtX11[66]) (EX := exA HTw2 cx1169.2.2.2.1 cx1169.2.1 exX11) (P := Pt PX11_movesNames) (cs := fun _ => []) (f := 600) (pcs := [2]) (cuts := ct1169) (by decide) hUw2 hKCw (fun _ _ _ _ _ _ _ _ _ z a b c d e => exA_ok (lv := cx1169.2.1) (hlv := z) (me := mtX11[66]) exX11_ok a b c d e) rfl (Pck_ok PX11_movesNames_ok) (fun _ => (List.forall_mem_nil _)) (by decide +kernel)
def cx1170 : Cx := (1474, 1, 2, [(178, 0, 8)], ((0, [(0, (2, 178, 0)), (1, (0, 0, 4))], [], [(0, 0, 0, 0, 0)], []), [(3, 0, 0)]), [((0, [], [], [(0, 0, 0, 0, 0)], []), [(3, 0, 0)])])
def ct1170 : List (Cu × Rk) := [(((2, [(0, (2, 178, 0)), (1, (0, 0, 4)), (2, (0, 1, 0))], [], [(0, 0, 0, 0, 0), (0, 4, 0, 0, 0)], []), [(3, 0, 0), (0, 2, 0)]), [(0, 0, 0), (1, 1, 4), (0, 0, 0)])]
theorem hd1170 : Hd HTw2 RGw 229 mtb (xsT 229) cx1170 := chk_ok (FK := FKw) (me := mtX11[66]) (EX := exA HTw2 cx1170.2.2.2.1 cx1170.2.1 exX11) (P := Pt PX11_movesNames) (cs := fun _ => []) (f := 600) (pcs := [2]) (cuts := ct1170) (by decide) hUw2 hKCw (fun _ _ _ _ _ _ _ _ _ z a b c d e => exA_ok (lv := cx1170.2.1) (hlv := z) (me := mtX11[66]) exX11_ok a b c d e) rfl (Pck_ok PX11_movesNames_ok) (fun _ => (List.forall_mem_nil _)) (by decide +kernel)
/-- lays -/
abbrev lyM : Me := mtX11[54]
abbrev lyMd : Md := cx605.2.2.2.1
abbrev lySt (d : Nat) : Cf → Cf → Prop := pm_Stp mtb (xsT 229) d (pm_Ex mtb (xsT 229) 229 d) lyM 229
def lyQ (d : Nat) (h0 : Ph) (cf : Cf) : Prop := ∃ (N : Nat) (cf' : Cf) (h' : Ph), pm_It (lySt d) N cf cf' ∧ pm_res lyM.2.2.2.1 lyM.2.1 cf' = some (none, h') ∧ hI HTw RGw 229 h' ∧ fr lyMd h0 h'
theorem lyQ_stp {d : Nat} {h0 : Ph} : ∀ a b, lySt d a b → lyQ d h0 b → lyQ d h0 a := by
  intro a b h ⟨N, cf', h', h1, h2⟩
  exact ⟨N + 1, cf', h', ⟨b, h, h1⟩, h2⟩
def lyZ : Sy := [(0, 0, 0, 0, 0), (1000, 1998, 0, 0, 0)]
def lyF : Fa := [(192, 1, (0, 0, 1000)), (193, 1, (0, 1, 0))]
def lyC : Cu := ((156, [(0, (2, 172, 0))], [(0, 0, 1000), (2, 194, 0)], lyZ, lyF), [(3, 0, 0), (3, 1, 0)])
def lyD : Ab := (159, [(0, (2, 172, 0))], [], lyZ, lyF)
def lyE : Cu := ((191, [], [], lyZ ++ [(0, 0, 0, 0, 0)], (192, 0, (0, 2, 0)) :: (193, 0, (0, 1, -1000)) :: lyF), [(3, 0, 0), (3, 1, 0), (1, 192, 0)])
def lyMt : Md := [(192, 0, 1), (193, 0, 1)]
def lyNx (md : Md) : Op0 → Ab → Option (List Ab) := nxA HTw2 RGw FKw UNw KCw mtb (exA HTw2 md 2 []) md 2 (fun _ => [cx1153, cx1154, cx1155, cx1156, cx1157, cx1158, cx1159, cx1160, cx1161, cx1162, cx1163, cx1164, cx1165, cx1166, cx1167, cx1168, cx1169, cx1170])
theorem ly1 : rn RGw (Pt PX11_lays) (lyNx lyMd) 2 10 [] [156] [(lyC, [])] none 400 cx605.2.2.2.2.1.1 = true := by decide +kernel
theorem ly2 : rn RGw (Pt PX11_lays) (lyNx lyMt) 2 10 [] [191] [(lyE, [])] none 400 lyD = true := by decide +kernel
theorem ly_nx {d : Nat} (hd : 2 ≤ d + 1) {md : Md} {h0 : Ph} : ∀ o A Bs vs cf, ga HTw2 RGw 229 md h0 vs A cf → Pt PX11_lays A.1 = some o → o.1 ≠ 22 → lyNx md o A = some Bs → ∃ cf', lySt d cf cf' ∧ ∃ B ∈ Bs, ∃ ws, ga HTw2 RGw 229 md h0 (vs ++ ws) B cf' :=
  nxA_ok (me := lyM) (by decide) hUw2 hKCw (fun _ _ _ _ _ _ _ _ _ z a b c d e => exA_ok (hlv := z) (me := lyM) (fun q hq => by cases hq) a b c d e) (Pck_ok PX11_lays_ok) (fun _ => (List.forall_mem_cons.mpr ⟨hd1153, (List.forall_mem_cons.mpr ⟨hd1154, (List.forall_mem_cons.mpr ⟨hd1155, (List.forall_mem_cons.mpr ⟨hd1156, (List.forall_mem_cons.mpr ⟨hd1157, (List.forall_mem_cons.mpr ⟨hd1158, (List.forall_mem_cons.mpr ⟨hd1159, (List.forall_mem_cons.mpr ⟨hd1160, (List.forall_mem_cons.mpr ⟨hd1161, (List.forall_mem_cons.mpr ⟨hd1162, (List.forall_mem_cons.mpr ⟨hd1163, (List.forall_mem_cons.mpr ⟨hd1164, (List.forall_mem_cons.mpr ⟨hd1165, (List.forall_mem_cons.mpr ⟨hd1166, (List.forall_mem_cons.mpr ⟨hd1167, (List.forall_mem_cons.mpr ⟨hd1168, (List.forall_mem_cons.mpr ⟨hd1169, (List.forall_mem_cons.mpr ⟨hd1170, (List.forall_mem_nil _)⟩)⟩)⟩)⟩)⟩)⟩)⟩)⟩)⟩)⟩)⟩)⟩)⟩)⟩)⟩)⟩)⟩)⟩)) hd
set_option maxRecDepth 16384 in
theorem ly156 : Pt PX11_lays 156 = some (23, 1473, 2, 0, 159, [393]) := rfl
theorem ly_inv {L : Lk} {nL pc : Nat} {ins : Instr} {len k np nx : Nat} {ts : List Nat} (h : rop L nL pc ins len = some (23, k, np, 0, nx, ts)) : ∃ idx, L.2.2.2 idx = some (k, np) ∧ len = 3 ∧ ins = .invokestatic idx := by
  obtain ⟨idx, i1, i2, i3, i4⟩ := rop_inv h rfl
  refine ⟨idx, i1, i2, ?_⟩
  rcases i4 with ⟨-, i4⟩ | ⟨i4, -⟩
  · exact i4
  · cases i4
theorem lyMd_ok : (lyMd.all fun m => decide (m.1 ≠ 172 ∧ (m.1 = 194 → m.2.2 ≤ 1000) ∧ (m.1 = 193 → m.2.2 ≤ 1))) = true := by decide +kernel
theorem lyMd_in : mdK lyMd 194 0 999 = true ∧ mdK lyMd 192 0 0 = true ∧ mdK lyMd 193 0 0 = true := by decide +kernel
theorem lyMd_no {c j : Nat} (h : (c = 194 ∧ 1000 ≤ j) ∨ (c = 193 ∧ j = 1) ∨ c = 172) : ¬ cov lyMd c j := by
  intro ⟨m, hm, h1, h2, h3⟩
  have := List.all_eq_true.mp lyMd_ok m hm
  simp only [decide_eq_true_eq] at this
  omega
set_option maxRecDepth 16384 in
theorem hdL : Hd HTw RGw 229 mtb (xsT 229) cx605 := by
  intro d hd av h vs0 hsl g
  have hd3 : 5 ≤ d := hd
  obtain ⟨d', rfl⟩ : ∃ d', d = d' + 1 := ⟨d - 1, by omega⟩
  obtain ⟨lam, hv⟩ : ∃ lam, vs0 = [0, lam] := by
    have h1 : 2 = vs0.length := g.2.2.2.1.1
    match vs0, h1 with
    | [z, lam], _ =>
      have h2 : some z = some 0 := g.2.2.2.1.2.1
      cases h2
      exact ⟨lam, rfl⟩
  subst hv
  have hxy := g.2.2.2.2.2.1.2 (by decide +kernel)
  have eL : ivl h cLT 1 = lam ∧ 1000 ≤ lam ∧ lam ≤ 2000 := by
    obtain ⟨x, w, x1, x2, x3⟩ := mv_slot (c := 193) (j := 1) (a := (0, 1, 0)) (by decide) g.2.2.2.2.1 (List.mem_cons_of_mem _ List.mem_cons_self) rfl
    have x2 : some lam = some w := x2
    cases x2
    have x3 : x.toInt = lam + 0 := x3
    have r := g.2.2.2.1.2.2 1 (1000, 1998, 0, 0, 0) lam rfl rfl
    refine ⟨?_, r.1, Int.le_trans r.2.1 (by decide)⟩
    unfold ivl
    rw [show pm_slot (h cLT) 1 = some (.int x) from x1]
    show x.toInt = lam
    omega
  have hG : lyQ d' h (0, lv_args 0 av, [], h) := by
    refine rn_to (vs0 := [0, lam]) lyQ_stp (ly_nx (d := d') (by omega)) (fun c hc2 vs' cf g' hp => ?_) 400 _ _ _ ⟨g.1, g.2.1, g.2.2.1, g.2.2.2.1, g.2.2.2.2.1, hI_12 g.2.2.2.2.2.1, g.2.2.2.2.2.2⟩ ⟨[], rfl⟩ ly1
    rw [List.mem_singleton.mp hc2] at g'
    obtain ⟨p0, p1, p2, p3, p4, p5, p6⟩ := g'
    obtain ⟨ws, rfl⟩ := hp
    have hlen := p3.1
    match ws, hlen with
    | [], _ =>
    obtain ⟨v, u, us, e1, e2, e3, e4⟩ := gst_cons2 p2
    have := gst_nil e4
    subst this
    obtain ⟨x, w, rfl, w1, w2⟩ := gv_int e2 rfl
    have w1 : some (0 : Int) = some w := w1
    cases w1
    have w2 : x.toInt = 0 + 1000 := w2
    have := gv_ref e3 rfl
    subst this
    obtain ⟨h1, x1, x2, x3⟩ := mv_ex (d := d') (by omega) (x := x) (by omega) p5
    obtain ⟨ins, len, hd1, hr⟩ := Pck_ok PX11_lays_ok 156 (23, 1473, 2, 0, 159, [393]) ly156
    obtain ⟨idx, i1, i2, i3⟩ := ly_inv hr
    subst i2 i3
    have p0 : cf.1 = 156 := p0
    have hcall : pm_Call mtb (pm_Ex mtb (xsT 229) 229 d') lyM 229 cf (159, cf.2.1, [], h1) := by
      refine ⟨idx, 1473, 2, mvM, [.ref 194, .int x], [], none, h1, i1, rfl, ?_, by decide, x1, by rw [p0]; rfl, Or.inl ⟨rfl, by rw [p0]; exact hd1, rfl⟩⟩
      rw [e1]
      rfl
    refine lyQ_stp _ _ (Or.inr (Or.inr hcall)) ?_
    refine rn_to (vs0 := [0, lam]) (h0 := h1) (md := lyMt) lyQ_stp (ly_nx (d := d') (by omega)) (fun c hc3 vs3 cf3 g3 hp3 => ?_) 400 lyD [0, lam] (159, cf.2.1, [], h1) ⟨rfl, p1, trivial, p3, ?_, x2, fun c j _ => rfl⟩ ⟨[], rfl⟩ ly2
    · rw [List.mem_singleton.mp hc3] at g3
      obtain ⟨q0, q1, q2, q3, q4, q5, q6⟩ := g3
      obtain ⟨ws, rfl⟩ := hp3
      have hlen3 := q3.1
      match ws, hlen3 with
      | [nul], _ =>
      have hnul := q3.2.2 2 (0, 0, 0, 0, 0) nul rfl rfl
      have hnul1 : 0 ≤ nul := hnul.1
      have hnul2 : nul ≤ 0 := hnul.2.1
      have q0 : cf3.1 = 191 := q0
      have q2 := gst_nil q2
      have hs : ∀ c j, ¬ ((c = 192 ∨ c = 193) ∧ j = 0) → pm_slot (cf3.2.2.2 c) j = pm_slot (h1 c) j := fun c j hcj => q6 c j (fun ⟨m, hm, m1, m2, m3⟩ => hcj (by
        rcases List.mem_cons.mp hm with rfl | hm
        · have m1 : (192 : Nat) = c := m1
          have m3 : j < 1 := m3
          exact ⟨Or.inl m1.symm, by omega⟩
        rcases List.mem_cons.mp hm with rfl | hm
        · have m1 : (193 : Nat) = c := m1
          have m3 : j < 1 := m3
          exact ⟨Or.inr m1.symm, by omega⟩
        · cases hm))
      obtain ⟨y, wy, y1, y2, y3⟩ := mv_slot (c := 192) (j := 0) (a := (0, 2, 0)) (by decide) q4 List.mem_cons_self rfl
      obtain ⟨z, wz, z1, z2, z3⟩ := mv_slot (c := 193) (j := 0) (a := (0, 1, -1000)) (by decide) q4 (List.mem_cons_of_mem _ List.mem_cons_self) rfl
      have y2 : some nul = some wy := y2
      cases y2
      have z2 : some lam = some wz := z2
      cases z2
      have y3 : y.toInt = nul + 0 := y3
      have z3 : z.toInt = lam + -1000 := z3
      have eLF : ivl cf3.2.2.2 cLF 0 = 0 := by
        unfold ivl
        rw [show pm_slot (cf3.2.2.2 cLF) 0 = some (.int y) from y1]
        show y.toInt = 0
        omega
      have eLT : ivl cf3.2.2.2 cLT 0 = lam - 1000 := by
        unfold ivl
        rw [show pm_slot (cf3.2.2.2 cLT) 0 = some (.int z) from z1]
        show z.toInt = lam - 1000
        omega
      have hfr : fr lyMd h cf3.2.2.2 := by
        intro c j hcj
        rw [hs c j (fun e => hcj (by
          obtain ⟨e1, e2⟩ := e
          rcases e1 with rfl | rfl
          · exact mdK_ok lyMd_in.2.1 (Nat.zero_le j) (by omega)
          · exact mdK_ok lyMd_in.2.2 (Nat.zero_le j) (by omega))), x3.1 c j (fun e => hcj (by
          obtain ⟨rfl, e2⟩ := e
          exact mdK_ok lyMd_in.1 (Nat.zero_le j) (by omega)))]
        exact p6 c j hcj
      have hi194 : ∀ i, i < 1000 → ivl cf3.2.2.2 cCO i = ivl h cCO (1000 + i) := fun i hi => by
        unfold ivl
        rw [show pm_slot (cf3.2.2.2 cCO) i = pm_slot (h1 cCO) i from hs cCO i (fun e => by have := e.1; revert this; decide), show pm_slot (h1 cCO) i = pm_slot (cf.2.2.2 cCO) (1000 + i) from x3.2 i hi, show pm_slot (cf.2.2.2 cCO) (1000 + i) = pm_slot (h cCO) (1000 + i) from p6 cCO (1000 + i) (lyMd_no (Or.inl ⟨rfl, by omega⟩))]
      have hyp' : yp cf3.2.2.2 := yp_congr (fun c j hcj => hfr c j (lyMd_no (by
        rcases hcj with ⟨a, b⟩ | ⟨a, b⟩ | ⟨a, b⟩
        · exact Or.inl ⟨a, b⟩
        · exact Or.inr (Or.inl ⟨a, b⟩)
        · exact Or.inr (Or.inr a)))) hxy.2
      have hxp' : xp cf3.2.2.2 := by
        obtain ⟨st, hst⟩ := hxy.2.2
        refine ⟨by rw [eLT]; omega, st, ?_⟩
        rw [eLF, eLT, ← hst, eL.1]
        show nsRun _ ((lam - 1000).toNat - 0) 0 [] = nsRun _ (lam.toNat - 1000) 1000 []
        rw [show (lam - 1000).toNat - 0 = lam.toNat - 1000 from by omega]
        apply nsRun_shift
        intro i hi
        rw [Nat.zero_add]
        exact hi194 i (by omega)
      obtain ⟨ins3, len3, hd3', hr3⟩ := Pck_ok PX11_lays_ok 191 (22, 0, 2, 0, 0, []) rfl
      obtain ⟨hl3, hi3⟩ := rop_ret hr3 rfl
      subst hl3
      have hi3 : ins3 = .return_ := by
        rcases hi3 with ⟨-, hb⟩ | ⟨-, hb⟩ | ⟨hb, -⟩
        · cases hb
        · cases hb
        · exact hb
      subst hi3
      refine ⟨0, cf3, cf3.2.2.2, rfl, ?_, hI_21 q5 ⟨z, z1, by omega, by omega⟩ ⟨hxp', hyp'⟩, hfr⟩
      unfold pm_res
      rw [q0, hd3', q2]
      rfl
    · intro q hq
      have hq2 := p4 q hq
      have hq194 : q.1 ≠ 194 ∧ q.2.1 = 1 := by
        rcases List.mem_cons.mp hq with rfl | hq
        · exact ⟨by decide, rfl⟩
        rcases List.mem_cons.mp hq with rfl | hq
        · exact ⟨by decide, rfl⟩
        · cases hq
      obtain ⟨i, v, y0, y1, y2⟩ := gf1_v hq2 (by rw [hq194.2]; decide)
      refine Or.inr ⟨by rw [hq194.2]; decide, i, v, y0, ?_, y2⟩
      show pm_slot (h1 q.1) i = some v
      rw [x3.1 q.1 i (fun e => hq194.1 e.1)]
      exact y1
  obtain ⟨N, cf', h', h1, h2, h3, h4⟩ := hG
  exact ⟨none, h', _, [0, lam], ⟨lyM, rfl, by rw [hsl]; decide, N, cf', h1, h2⟩, List.mem_cons_self, ⟨[], rfl⟩, rfl, fun q hq => (by cases hq), trivial, g.2.2.2.1, fun q hq => (by cases hq), h3, h4⟩
