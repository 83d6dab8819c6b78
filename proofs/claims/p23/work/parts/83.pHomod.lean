/-! orders of the model -/
def rw9 (k : Nat) : Int := if k = 4 then 9 else (k : Int)
theorem rw9_lt {a b : Nat} (ha : a ≤ 4) (hb : b ≤ 4) : rw9 a < rw9 b ↔ a < b := by
  unfold rw9
  split <;> split <;> omega
theorem rw9_eq {a b : Nat} (ha : a ≤ 4) (hb : b ≤ 4) : rw9 a = rw9 b ↔ a = b := by
  unfold rw9
  split <;> split <;> omega
theorem rsV_sU (D : ZD) (T : Nat) : ∀ n, rsV D T n = sU (fun f => if T.testBit f = true then colD D 12 f else 0) n
  | 0 => rfl
  | n + 1 => by
    have e : rsV D T (n + 1) = rsV D T n + (if T.testBit n = true then colD D 12 n else 0) := rfl
    rw [e, rsV_sU D T n, sU_s]
/-- that a set can be given to the first k of the hills served -/
def CGp (D : ZD) (sv : Nat → Nat) : Nat → Nat → Prop
  | 0, set => set = 0
  | k + 1, set => ∃ g, g ≠ 0 ∧ g &&& set = g ∧ CGp D sv k (ndf set g) ∧ colD D 40 (sv k) ≤ rsA D g
noncomputable def cgB (D : ZD) (sv : Nat → Nat) (k set : Nat) : Int := if dcP (CGp D sv k set) = true then 1 else 0
theorem cgB_y {D : ZD} {sv : Nat → Nat} {k set : Nat} (h : CGp D sv k set) : cgB D sv k set = 1 := if_pos (dcP_yes h)
theorem cgB_n {D : ZD} {sv : Nat → Nat} {k set : Nat} (h : ¬ CGp D sv k set) : cgB D sv k set = 0 := if_neg (by rw [dcP_no h]; decide)
/-- the hills of a set, in order -/
def srvd (h hm : Nat) (sv : Nat → Nat) (n : Nat) : Prop := n ≤ h ∧ (∀ k, k < n → sv k < h ∧ hm.testBit (sv k) = true) ∧ (∀ i j, i < j → j < n → sv i < sv j) ∧ ∀ i, i < h → hm.testBit i = true → ∃ k, k < n ∧ sv k = i
section Zom
variable {N : Nat} {s : Zs} {D : ZD} {S : ZS}
theorem canServe_m (hm : mT s D) (hw : wD D) (hX : wX D) {sv : Nat → Nat} {k set : Nat} (hk : k < 4) (hsv : s 223 k = ((sv k : Nat) : Int)) (hsk : sv k < cnt D 4) (hset : set < 2 ^ cnt D 1) (row : ∀ y, y < 2 ^ cnt D 1 → s 222 (1024 * k + y) = cgB D sv k y) : zC N 1420 [(((172 : Nat) : Int), 0), (((k + 1 : Nat) : Int), 0), ((set : Int), 0)] s (fun r => r = ([(cgB D sv (k + 1) set, 0)], s)) := by
  have h10 : cnt D 1 ≤ 10 := hw.1 1 (by omega)
  have b3 : 2 ^ cnt D 1 ≤ 2 ^ 10 := Nat.pow_le_pow_right (by decide) h10
  have b4 : (2 : Nat) ^ 10 = 1024 := by decide
  have w1 : w32 (((k + 1 : Nat) : Int) - 1) = (k : Int) := by
    rw [w32_id (by omega) (by omega)]
    omega
  have r0 : s 190 (sv k) = colD D 40 (sv k) := mcol hm hw (k := 4) (j := 0) (by omega) (by omega) (by decide) (by decide) hsk
  have loop : ∀ (M g : Nat), g &&& set = g → (∀ y, y ≠ 0 → y &&& set = y → g < y → ¬ (CGp D sv k (ndf set y) ∧ colD D 40 (sv k) ≤ rsA D y)) → zT (zE 1420) (Pt PX11_canServe) M (2, [((172 : Nat) : Int), ((k + 1 : Nat) : Int), (set : Int), (g : Int)], [], s) (fun r => r = ([(cgB D sv (k + 1) set, 0)], s)) := by
    intro M
    induction M using Nat.strongRecOn with
    | ind M ih =>
      intro g hg no
      have gm := sub_le hg
      have nl : ndf set g ≤ set := ndf_le (by omega)
      have ix : (w32 ((w32 (1024 * (w32 (((k + 1 : Nat) : Int) - 1)))) + (zand (set : Int) (zxor (g : Int) (-1))))).toNat = 1024 * k + ndf set g := by
        rw [w1, zandn (by omega), w32_id (z := 1024 * (k : Int)) (by omega) (by omega), w32_id (by omega) (by omega)]
        omega
      have on : ∀ m2, m2 < M → 0 < g → ¬ (CGp D sv k (ndf set g) ∧ colD D 40 (sv k) ≤ rsA D g) → zT (zE 1420) (Pt PX11_canServe) m2 (2, [((172 : Nat) : Int), ((k + 1 : Nat) : Int), (set : Int), zand (w32 ((g : Int) - 1)) (set : Int)], [], s) (fun r => r = ([(cgB D sv (k + 1) set, 0)], s)) := fun m2 hm2 g0 ng => by
        have eg : w32 ((g : Int) - 1) = ((g - 1 : Nat) : Int) := by
          rw [w32_id (by omega) (by omega)]
          omega
        rw [eg, zand_nat (by omega) (by omega)]
        refine ih m2 hm2 _ (and_sub _ _) (fun y y0 hy hl => ?_)
        by_cases q : g < y
        · exact no y y0 hy q
        · have yg : y = g := Classical.byContradiction fun n => by
            have := sub_nx g y set hg hy (by omega)
            omega
          rw [yg]
          exact ng
      refine b_X11_canServe_2 _ _ _ s (fun g1 => ?_) (fun g1 g2 m2 hm2 => ?_) (fun g1 g2 m2 hm2 => ?_)
      · have nc : ¬ CGp D sv (k + 1) set := fun q => by
          obtain ⟨y, y0, hy, c1, c2⟩ := q
          exact no y y0 hy (by omega) ⟨c1, c2⟩
        show _ = _
        rw [cgB_n nc]
      · rw [ix, row _ (by omega)] at g2
        exact on m2 hm2 (by omega) (fun q => by
          rw [cgB_y q.1] at g2
          exact absurd g2 (by decide))
      · have c1 : CGp D sv k (ndf set g) := Classical.byContradiction fun c => by
          rw [ix, row _ (by omega)] at g2
          exact g2 (cgB_n c)
        refine zC_q (riseOf_m hm hw hX (T := g) (by omega)) (fun r hr => ?_)
        subst hr
        refine b_X11_canServe_32 _ _ _ _ s (fun g3 m3 hm3 => ?_) (fun g3 => ?_)
        all_goals rw [w1, Int.toNat_natCast, hsv, Int.toNat_natCast, r0] at g3
        · exact on m3 (by omega) (by omega) (fun q => absurd q.2 (by omega))
        · have yc : CGp D sv (k + 1) set := ⟨g, by omega, hg, c1, g3⟩
          show _ = _
          rw [cgB_y yc]
  exact c_X11_canServe (b_X11_canServe_0 _ _ _ s (loop N set (Nat.and_self set) (fun y _ hy hl => absurd (sub_le hy) (by omega))))
theorem cg_ix {k set : Nat} (hk : k ≤ 4) (hs : set < 1024) : w32 ((w32 (1024 * (k : Int))) + (set : Int)) = ((1024 * k + set : Nat) : Int) := by
  rw [w32_id (z := 1024 * (k : Int)) (by omega) (by omega), w32_id (by omega) (by omega)]
  omega
theorem g7_lt (x : Nat) : g7 x < 1024 := bset_lt _ 10
theorem zst_0 : zst3 0 = 0 := by decide +kernel
theorem zst_1 : zst3 1 = 1 := by decide +kernel
theorem zst_cg {sv : Nat → Nat} {k y : Nat} : zst3 (cgB D sv k y) = cgB D sv k y := by
  by_cases c : CGp D sv k y
  · rw [cgB_y c, zst_1]
  · rw [cgB_n c, zst_0]
def lsQ (D : ZD) (x : Nat) (s : Zs) (r : Zr) : Prop := r.1 = [] ∧ (∀ c j, c ≠ 222 → c ≠ 223 → ¬ (c = 172 ∧ j = 64) → r.2 c j = s c j) ∧ ∃ sv n, srvd (cnt D 4) x sv n ∧ r.2 172 64 = ((n : Nat) : Int) ∧ (∀ k, k < n → r.2 223 k = ((sv k : Nat) : Int)) ∧ ∀ y, y < 2 ^ cnt D 1 → r.2 222 (1024 * n + y) = cgB D sv n y
theorem laysServed_m (hm : mT s D) (hw : wD D) (hX : wX D) {x : Nat} (hx : x < 16) : zC N 1466 [(((172 : Nat) : Int), 0), ((x : Int), 0)] s (lsQ D x s) := by
  have h10 : cnt D 1 ≤ 10 := hw.1 1 (by omega)
  have h4 : cnt D 4 ≤ 4 := hw.1 4 (by omega)
  have b3 : 2 ^ cnt D 1 ≤ 2 ^ 10 := Nat.pow_le_pow_right (by decide) h10
  have b4 : (2 : Nat) ^ 10 = 1024 := by decide
  have b5 : 1 ≤ 2 ^ cnt D 1 := Nat.one_le_two_pow
  have rows : ∀ (sv : Nat → Nat) (n : Nat) (s1 : Zs), srvd (cnt D 4) x sv n → (∀ c j, c ≠ 222 → c ≠ 223 → ¬ (c = 172 ∧ j = 64) → s1 c j = s c j) → s1 172 64 = ((n : Nat) : Int) → (∀ k, k < n → s1 223 k = ((sv k : Nat) : Int)) → ∀ (M k : Nat) (s2 : Zs) (x3 : Int), k ≤ n + 1 → (∀ c j, c ≠ 222 → s2 c j = s1 c j) → (∀ k' y, k' < k → y < 2 ^ cnt D 1 → s2 222 (1024 * k' + y) = cgB D sv k' y) → zT (zE 1466) (Pt PX11_laysServed) M (56, [((172 : Nat) : Int), (x : Int), (k : Int), x3], [], s2) (lsQ D x s) := by
    intro sv n s1 hs f1 e1 e2 M
    have n4 := hs.1
    induction M using Nat.strongRecOn with
    | ind M ih =>
      intro k s2 x3 hk f2 hr
      have n1 : s2 172 64 = ((n : Nat) : Int) := (f2 _ _ (by decide)).trans e1
      refine b_X11_laysServed_56 _ _ _ s2 (fun g => ?_) (fun g => ?_)
      all_goals rw [n1] at g
      · exact ⟨rfl, fun c j h1 h2 h3 => (f2 c j h1).trans (f1 c j h1 h2 h3), sv, n, hs, n1, fun i hi => (f2 _ _ (by decide)).trans (e2 i hi), fun y hy => hr n y (by omega) hy⟩
      have hkn : k ≤ n := by omega
      have inner : ∀ (M1 set : Nat) (s3 : Zs), M1 ≤ M → set ≤ 2 ^ cnt D 1 → (∀ c j, c ≠ 222 → s3 c j = s1 c j) → (∀ k' y, k' < k → y < 2 ^ cnt D 1 → s3 222 (1024 * k' + y) = cgB D sv k' y) → (∀ y, y < set → s3 222 (1024 * k + y) = cgB D sv k y) → zT (zE 1466) (Pt PX11_laysServed) M1 (66, [((172 : Nat) : Int), (x : Int), (k : Int), (set : Int)], [], s3) (lsQ D x s) := by
        intro M1
        induction M1 using Nat.strongRecOn with
        | ind M1 ih1 =>
          intro set s3 hM1 hset f3 hr3 hc3
          have hm3 : mT s3 D := mT_e (fun c j a b => (f3 c j (by omega)).trans (f1 c j (by omega) (by omega) (by omega))) hm
          have c1 : s3 174 1 = ((cnt D 1 : Nat) : Int) := hm3.1 1 (by omega)
          have on : ∀ (m2 : Nat) (v : Int), m2 < M1 → set < 2 ^ cnt D 1 → v = cgB D sv k set → zT (zE 1466) (Pt PX11_laysServed) m2 (66, [((172 : Nat) : Int), (x : Int), (k : Int), w32 ((set : Int) + 1)], [], zu s3 222 (1024 * k + set) v) (lsQ D x s) := fun m2 v hm2 hs2 hv => by
            rw [w32_k (by omega)]
            refine ih1 m2 hm2 (set + 1) _ (by omega) (by omega) (fun c j h => ?_) (fun k' y hk' hy => ?_) (fun y hy => ?_)
            · rw [zu_n (by omega)]
              exact f3 c j h
            · rw [zu_n (by omega)]
              exact hr3 k' y hk' hy
            · by_cases q : y = set
              · rw [q, zu_eq]
                exact hv
              · rw [zu_n (by omega)]
                exact hc3 y (by omega)
          refine b_X11_laysServed_66 _ _ _ s3 (fun g2 m2 hm2 => ?_) (fun g2 g3 m2 hm2 => ?_) (fun g2 g3 g5 m2 hm2 => ?_) (fun g2 g3 g5 m2 hm2 => ?_)
          all_goals rw [c1, al_e hw] at g2
          · have es : set = 2 ^ cnt D 1 := by omega
            rw [w32_k (by omega)]
            refine ih m2 (by omega) (k + 1) s3 _ (by omega) f3 (fun k' y hk' hy => ?_)
            by_cases q : k' = k
            · rw [q]
              exact hc3 y (by omega)
            · exact hr3 k' y (by omega) hy
          · obtain ⟨k', rfl⟩ : ∃ k', k = k' + 1 := ⟨k - 1, by omega⟩
            have hsk := hs.2.1 k' (by omega)
            refine zC_q (canServe_m hm3 hw hX (sv := sv) (k := k') (set := set) (by omega) ((f3 _ _ (by decide)).trans (e2 k' (by omega))) hsk.1 (by omega) (fun y hy => hr3 k' y (by omega) hy)) (fun r hr9 => ?_)
            subst hr9
            refine b_X11_laysServed_107 _ _ _ _ _ s3 (fun m3 hm3 => ?_)
            rw [cg_ix (by omega) (by omega), Int.toNat_natCast, zst_cg]
            exact on m3 _ (by omega) (by omega) rfl
          · have k0 : k = 0 := by omega
            subst k0
            rw [cg_ix (by omega) (by omega), Int.toNat_natCast, zst_0]
            exact on m2 _ hm2 (by omega) (cgB_n (D := D) (sv := sv) (k := 0) (fun q => by
              have q : set = 0 := q
              omega)).symm
          · have k0 : k = 0 := by omega
            subst k0
            have s0 : set = 0 := by omega
            rw [cg_ix (by omega) (by omega), Int.toNat_natCast, zst_1]
            exact on m2 _ hm2 (by omega) (cgB_y (D := D) (sv := sv) (k := 0) (show CGp D sv 0 set from s0)).symm
      exact inner M 0 s2 (Nat.le_refl _) (Nat.zero_le _) f2 hr (fun y hy => absurd hy (Nat.not_lt_zero y))
  have hills : ∀ (M h : Nat) (s1 : Zs) (x3 : Int), h ≤ cnt D 4 → (∀ c j, c ≠ 222 → c ≠ 223 → ¬ (c = 172 ∧ j = 64) → s1 c j = s c j) → (∃ sv n, srvd h x sv n ∧ s1 172 64 = ((n : Nat) : Int) ∧ ∀ k, k < n → s1 223 k = ((sv k : Nat) : Int)) → zT (zE 1466) (Pt PX11_laysServed) M (7, [((172 : Nat) : Int), (x : Int), (h : Int), x3], [], s1) (lsQ D x s) := by
    intro M
    induction M using Nat.strongRecOn with
    | ind M ih =>
      intro h s1 x3 hh f1 ex
      obtain ⟨sv, n, hs, e1, e2⟩ := ex
      have c4 : s1 174 4 = ((cnt D 4 : Nat) : Int) := (f1 _ _ (by omega) (by omega) (by omega)).trans (hm.1 4 (by omega))
      refine b_X11_laysServed_7 _ _ _ s1 (fun g => ?_) (fun g g2 m hm' => ?_) (fun g g2 m hm' => ?_)
      all_goals rw [c4] at g
      · have eh : h = cnt D 4 := by omega
        subst eh
        exact rows sv n s1 hs f1 e1 e2 M 0 s1 x3 (Nat.zero_le _) (fun _ _ _ => rfl) (fun k' y hk' _ => absurd hk' (Nat.not_lt_zero k'))
      · have q : x.testBit h = true := Classical.byContradiction fun c => g2 ((zbit0 (by omega) (by omega)).mpr c)
        have n4 := hs.1
        rw [w32_k (by omega), e1, Int.toNat_natCast, w32_k (by omega)]
        have sw : ∃ sv' : Nat → Nat, sv' n = h ∧ ∀ k, k ≠ n → sv' k = sv k := ⟨fun k => if k = n then h else sv k, if_pos rfl, fun k hk => if_neg hk⟩
        obtain ⟨sv', v1, v2⟩ := sw
        refine ih m hm' (h + 1) _ x3 (by omega) (fun c j h1 h2 h3 => ?_) ⟨sv', n + 1, ⟨by omega, fun k hk => ?_, fun i j hi hj => ?_, fun i hi hb => ?_⟩, zu_eq _ _ _ _, fun k hk => ?_⟩
        · rw [zu_n (by omega), zu_n (by omega)]
          exact f1 c j h1 h2 h3
        · by_cases e : k = n
          · rw [e, v1]
            exact ⟨by omega, q⟩
          · rw [v2 k e]
            have := hs.2.1 k (by omega)
            exact ⟨by omega, this.2⟩
        · have ei : i ≠ n := by omega
          rw [v2 i ei]
          by_cases e : j = n
          · rw [e, v1]
            exact (hs.2.1 i (by omega)).1
          · rw [v2 j e]
            exact hs.2.2.1 i j hi (by omega)
        · by_cases e : i = h
          · exact ⟨n, by omega, v1.trans e.symm⟩
          · obtain ⟨k, k1, k2⟩ := hs.2.2.2 i (by omega) hb
            exact ⟨k, by omega, (v2 k (by omega)).trans k2⟩
        · rw [zu_n (by omega)]
          by_cases e : k = n
          · rw [e, zu_eq, v1]
          · rw [zu_n (by omega), v2 k e]
            exact e2 k (by omega)
      · have q : ¬ x.testBit h = true := (zbit0 (by omega) (by omega)).mp g2
        rw [w32_k (by omega)]
        refine ih m hm' (h + 1) s1 x3 (by omega) f1 ⟨sv, n, ⟨by have := hs.1; omega, fun k hk => ?_, hs.2.2.1, fun i hi hb => ?_⟩, e1, e2⟩
        · have := hs.2.1 k hk
          exact ⟨by omega, this.2⟩
        · by_cases e : i = h
          · rw [e] at hb
            exact absurd hb q
          · exact hs.2.2.2 i (by omega) hb
  refine c_X11_laysServed (b_X11_laysServed_0 _ _ _ s (hills N 0 _ _ (Nat.zero_le _) (fun c j h1 h2 h3 => zu_n h3) ⟨fun _ => 0, 0, ⟨Nat.le_refl _, fun k hk => absurd hk (Nat.not_lt_zero k), fun i j _ hj => absurd hj (Nat.not_lt_zero j), fun i hi _ => absurd hi (Nat.not_lt_zero i)⟩, zu_eq _ _ _ _, fun k hk => absurd hk (Nat.not_lt_zero k)⟩))
/-! a set can be given if and only if there is a row -/
theorem ndf_tn {set g : Nat} (hs : set < 4294967296) (hg : g &&& set = g) (f : Nat) : (ndf set g).testBit f = true ↔ (set.testBit f = true ∧ ¬ g.testBit f = true) := by
  rw [ndf_tb hs (Nat.lt_of_le_of_lt (sub_le hg) hs)]
  cases set.testBit f <;> cases g.testBit f <;> simp
theorem CG_d {h hm n : Nat} {sv : Nat → Nat} (hs : srvd h hm sv n) (h4 : h ≤ 4) : ∀ k set, k ≤ n → set < 4294967296 → CGp D sv k set → ∃ d : Nat → Nat, (∀ f, (set.testBit f = true → ∃ j, j < k ∧ d f = sv j) ∧ (¬ set.testBit f = true → d f = 4)) ∧ ∀ j, j < k → colD D 40 (sv j) ≤ gvd (cnt D 1) (colD D 12) d (sv j)
  | 0, set, _, _, hc => by
    have hc : set = 0 := hc
    subst hc
    exact ⟨fun _ => 4, fun f => ⟨fun q => (by rw [Nat.zero_testBit] at q; cases q), fun _ => rfl⟩, fun j hj => absurd hj (Nat.not_lt_zero j)⟩
  | k + 1, set, hk, hl, hc => by
    obtain ⟨g, g0, hg, hc, hr⟩ := hc
    have nl : ndf set g ≤ set := ndf_le hl
    obtain ⟨d, d1, d2⟩ := CG_d hs h4 k (ndf set g) (by omega) (by omega) hc
    have dd : ∃ d' : Nat → Nat, ∀ f, (g.testBit f = true → d' f = sv k) ∧ (¬ g.testBit f = true → d' f = d f) := ⟨fun f => if g.testBit f = true then sv k else d f, fun f => ⟨fun q => if_pos q, fun q => if_neg q⟩⟩
    obtain ⟨d', hd'⟩ := dd
    have tn := ndf_tn hl hg
    have sk := hs.2.1 k (by omega)
    -- behind g nothing of hill sv k
    have nk : ∀ f, ¬ g.testBit f = true → d f ≠ sv k := fun f q e => by
      by_cases q2 : set.testBit f = true
      · obtain ⟨j, j1, j2⟩ := (d1 f).1 ((tn f).mpr ⟨q2, q⟩)
        have := hs.2.2.1 j k j1 (by omega)
        omega
      · have := (d1 f).2 (fun z => q2 ((tn f).mp z).1)
        omega
    refine ⟨d', fun f => ⟨fun q => ?_, fun q => ?_⟩, fun j hj => ?_⟩
    · by_cases q2 : g.testBit f = true
      · exact ⟨k, by omega, (hd' f).1 q2⟩
      · obtain ⟨j, j1, j2⟩ := (d1 f).1 ((tn f).mpr ⟨q, q2⟩)
        exact ⟨j, by omega, ((hd' f).2 q2).trans j2⟩
    · have q2 : ¬ g.testBit f = true := fun z => q (sub_tb hg z)
      rw [(hd' f).2 q2]
      exact (d1 f).2 (fun z => q ((tn f).mp z).1)
    · by_cases e : j = k
      · rw [e]
        have : gvd (cnt D 1) (colD D 12) d' (sv k) = rsA D g := by
          unfold rsA
          rw [rsV_sU]
          refine sU_e _ (fun f _ => ?_)
          show (if d' f = sv k then colD D 12 f else 0) = (if g.testBit f = true then colD D 12 f else 0)
          by_cases q2 : g.testBit f = true
          · rw [if_pos ((hd' f).1 q2), if_pos q2]
          · rw [if_neg (show ¬ d' f = sv k by rw [(hd' f).2 q2]; exact nk f q2), if_neg q2]
        rw [this]
        exact hr
      · have : gvd (cnt D 1) (colD D 12) d' (sv j) = gvd (cnt D 1) (colD D 12) d (sv j) := sU_e _ (fun f _ => by
          show (if d' f = sv j then colD D 12 f else 0) = (if d f = sv j then colD D 12 f else 0)
          by_cases q2 : g.testBit f = true
          · have lt := hs.2.2.1 j k (by omega) (by omega)
            have z1 : ¬ d' f = sv j := by rw [(hd' f).1 q2]; omega
            have z2 : d f = 4 := (d1 f).2 (fun z => ((tn f).mp z).2 q2)
            have z3 := (hs.2.1 j (by omega)).1
            have z4 : ¬ d f = sv j := by omega
            rw [if_neg z1, if_neg z4]
          · rw [(hd' f).2 q2])
        rw [this]
        exact d2 j (by omega)
theorem d_CG {h hm n : Nat} {sv : Nat → Nat} (hs : srvd h hm sv n) (hh1 : ∀ k, k < h → 1 ≤ colD D 40 k) (h10 : cnt D 1 ≤ 10) : ∀ k set (d : Nat → Nat), k ≤ n → set < 2 ^ cnt D 1 → (∀ f, set.testBit f = true → ∃ j, j < k ∧ d f = sv j) → (∀ j, j < k → colD D 40 (sv j) ≤ sU (fun f => if set.testBit f = true then (if d f = sv j then colD D 12 f else 0) else 0) (cnt D 1)) → CGp D sv k set
  | 0, set, d, _, _, h1, _ => by
    show set = 0
    apply Nat.eq_of_testBit_eq
    intro i
    rw [Nat.zero_testBit]
    refine Bool.eq_false_iff.mpr (fun q => ?_)
    obtain ⟨j, hj, -⟩ := h1 i q
    exact absurd hj (Nat.not_lt_zero j)
  | k + 1, set, d, hk, hl, h1, h2 => by
    have b3 : 2 ^ cnt D 1 ≤ 2 ^ 10 := Nat.pow_le_pow_right (by decide) h10
    have b4 : (2 : Nat) ^ 10 = 1024 := by decide
    have tg : ∀ f, (bset (fun f => set.testBit f && decide (d f = sv k)) (cnt D 1)).testBit f = true ↔ (set.testBit f = true ∧ d f = sv k) := fun f => by
      rw [bset_tb]
      simp only [Bool.and_eq_true, decide_eq_true_eq]
      exact ⟨fun q => q.2, fun q => ⟨tb_lt hl q.1, q⟩⟩
    generalize bset (fun f => set.testBit f && decide (d f = sv k)) (cnt D 1) = g at tg
    have hg : g &&& set = g := tb_sub (fun f q => ((tg f).mp q).1)
    have tn := ndf_tn (by omega) hg
    have er : rsA D g = sU (fun f => if set.testBit f = true then (if d f = sv k then colD D 12 f else 0) else 0) (cnt D 1) := by
      unfold rsA
      rw [rsV_sU]
      refine sU_e _ (fun f _ => ?_)
      show (if g.testBit f = true then colD D 12 f else 0) = (if set.testBit f = true then (if d f = sv k then colD D 12 f else 0) else 0)
      by_cases q : g.testBit f = true
      · have z := (tg f).mp q
        rw [if_pos q, if_pos z.1, if_pos z.2]
      · rw [if_neg q]
        by_cases q2 : set.testBit f = true
        · rw [if_pos q2, if_neg (show ¬ d f = sv k from fun z => q ((tg f).mpr ⟨q2, z⟩))]
        · rw [if_neg q2]
    have hk9 := h2 k (by omega)
    have hp := hh1 _ (hs.2.1 k (by omega)).1
    rw [← er] at hk9
    have g0 : g ≠ 0 := fun z => by
      have : rsA D g = 0 := by
        rw [er]
        refine sU_z _ (fun f _ => ?_)
        show (if set.testBit f = true then (if d f = sv k then colD D 12 f else 0) else 0) = 0
        by_cases q2 : set.testBit f = true
        · rw [if_pos q2, if_neg (show ¬ d f = sv k from fun z2 => by
            have := (tg f).mpr ⟨q2, z2⟩
            rw [z, Nat.zero_testBit] at this
            cases this)]
        · rw [if_neg q2]
      omega
    have nl : ndf set g ≤ set := ndf_le (by omega)
    refine ⟨g, g0, hg, d_CG hs hh1 h10 k (ndf set g) d (by omega) (by omega) (fun f q => ?_) (fun j hj => ?_), hk9⟩
    · have z := (tn f).mp q
      obtain ⟨j, j1, j2⟩ := h1 f z.1
      refine ⟨j, Classical.byContradiction fun c => ?_, j2⟩
      have : j = k := by omega
      rw [this] at j2
      exact z.2 ((tg f).mpr ⟨z.1, j2⟩)
    · have e : sU (fun f => if (ndf set g).testBit f = true then (if d f = sv j then colD D 12 f else 0) else 0) (cnt D 1) = sU (fun f => if set.testBit f = true then (if d f = sv j then colD D 12 f else 0) else 0) (cnt D 1) := sU_e _ (fun f _ => by
        show (if (ndf set g).testBit f = true then (if d f = sv j then colD D 12 f else 0) else 0) = (if set.testBit f = true then (if d f = sv j then colD D 12 f else 0) else 0)
        by_cases q : (ndf set g).testBit f = true
        · rw [if_pos q, if_pos ((tn f).mp q).1]
        · rw [if_neg q]
          by_cases q2 : set.testBit f = true
          · have q3 : g.testBit f = true := Classical.byContradiction fun c => q ((tn f).mpr ⟨q2, c⟩)
            have z := ((tg f).mp q3).2
            have lt := hs.2.2.1 j k hj (by omega)
            have z4 : ¬ d f = sv j := by omega
            rw [if_pos q2, if_neg z4]
          · rw [if_neg q2])
      rw [e]
      exact h2 j (by omega)
/-! the first row -/
def cmpl (D : ZD) (sv : Nat → Nat) (n set f : Nat) (L : Nat → Int) (d : Nat → Nat) : Prop := (∀ i, f ≤ i → i < cnt D 1 → (set.testBit i = true → ∃ k, k < n ∧ d i = sv k) ∧ (¬ set.testBit i = true → d i = 4)) ∧ ∀ h, h < 4 → L h ≤ sU (fun i => if d i = h then colD D 12 i else 0) (cnt D 1) - sU (fun i => if d i = h then colD D 12 i else 0) f
def leftM (D : ZD) (set f : Nat) : Int := sU (fun i => if set.testBit i = true then colD D 12 i else 0) (cnt D 1) - sU (fun i => if set.testBit i = true then colD D 12 i else 0) f
def flS (D : ZD) (sv : Nat → Nat) (n : Nat) (s : Zs) : Prop := s 174 1 = ((cnt D 1 : Nat) : Int) ∧ (∀ i, i < cnt D 1 → s 182 i = colD D 12 i) ∧ s 172 64 = ((n : Nat) : Int) ∧ ∀ k, k < n → s 223 k = ((sv k : Nat) : Int)
theorem flS_e {sv : Nat → Nat} {n : Nat} {s s' : Zs} (h : flS D sv n s) (f : ∀ c j, c ≠ 224 → c ≠ 226 → ¬ (c = 172 ∧ j = 68) → s' c j = s c j) : flS D sv n s' := ⟨(f _ _ (by decide) (by decide) (by decide)).trans h.1, fun i hi => (f _ _ (by decide) (by decide) (by omega)).trans (h.2.1 i hi), (f _ _ (by decide) (by decide) (by decide)).trans h.2.2.1, fun k hk => (f _ _ (by decide) (by decide) (by omega)).trans (h.2.2.2 k hk)⟩
def flQ (D : ZD) (sv : Nat → Nat) (n set f : Nat) (L : Nat → Int) (s : Zs) (r : Zr) : Prop := r.1 = [] ∧ (∀ c j, ¬ (c = 224 ∧ f ≤ j) → ¬ (c = 172 ∧ j = 68) → r.2 c j = s c j) ∧ ((r.2 172 68 = 1 ∧ ∃ d, cmpl D sv n set f L d ∧ (∀ i, f ≤ i → i < cnt D 1 → r.2 224 i = rw9 (d i)) ∧ ∀ e, cmpl D sv n set f L e → lxd f (cnt D 1) d e) ∨ (r.2 172 68 = 0 ∧ ∀ e, ¬ cmpl D sv n set f L e))
theorem cmpl_no (hw : wD D) (hX : wX D) {h hm n set f : Nat} {sv : Nat → Nat} {L : Nat → Int} {e : Nat → Nat} (hs : srvd h hm sv n) (h4 : h ≤ 4) (hf : f ≤ cnt D 1) (c : cmpl D sv n set f L e) : sU (fun k => if 0 < L k then L k else 0) 4 ≤ leftM D set f := by
  obtain ⟨d, hd⟩ : ∃ d, cnt D 1 = f + d := ⟨cnt D 1 - f, by omega⟩
  have nn : ∀ k, 0 ≤ sU (fun i => if e i = k then colD D 12 i else 0) (cnt D 1) - sU (fun i => if e i = k then colD D 12 i else 0) f := fun k => by
    rw [hd]
    refine tl_nn d (fun i h1 h2 => ?_)
    have := rise_bd hw hX (k := i) (by omega)
    show 0 ≤ (if e i = k then colD D 12 i else 0)
    split <;> omega
  have big : ∀ k, k < 4 → (if 0 < L k then L k else 0) ≤ sU (fun i => if e i = k then colD D 12 i else 0) (cnt D 1) - sU (fun i => if e i = k then colD D 12 i else 0) f := fun k hk => by
    have h1 := c.2 k hk
    have h2 := nn k
    split <;> omega
  have sum : ∀ n, sU (fun i => ((if e i = 0 then colD D 12 i else 0) + (if e i = 1 then colD D 12 i else 0)) + ((if e i = 2 then colD D 12 i else 0) + (if e i = 3 then colD D 12 i else 0))) n = (sU (fun i => if e i = 0 then colD D 12 i else 0) n + sU (fun i => if e i = 1 then colD D 12 i else 0) n) + (sU (fun i => if e i = 2 then colD D 12 i else 0) n + sU (fun i => if e i = 3 then colD D 12 i else 0) n) := fun n => by
    rw [sU_add (fun i => (if e i = 0 then colD D 12 i else 0) + (if e i = 1 then colD D 12 i else 0)) (fun i => (if e i = 2 then colD D 12 i else 0) + (if e i = 3 then colD D 12 i else 0)), sU_add, sU_add]
  have le : sU (fun i => ((if e i = 0 then colD D 12 i else 0) + (if e i = 1 then colD D 12 i else 0)) + ((if e i = 2 then colD D 12 i else 0) + (if e i = 3 then colD D 12 i else 0))) (cnt D 1) - sU (fun i => ((if e i = 0 then colD D 12 i else 0) + (if e i = 1 then colD D 12 i else 0)) + ((if e i = 2 then colD D 12 i else 0) + (if e i = 3 then colD D 12 i else 0))) f ≤ leftM D set f := by
    unfold leftM
    rw [hd]
    refine tl_le d (fun i h1 h2 => ?_)
    have b := rise_bd hw hX (k := i) (by omega)
    have ci := c.1 i h1 (by omega)
    show ((if e i = 0 then colD D 12 i else 0) + (if e i = 1 then colD D 12 i else 0)) + ((if e i = 2 then colD D 12 i else 0) + (if e i = 3 then colD D 12 i else 0)) ≤ (if set.testBit i = true then colD D 12 i else 0)
    by_cases q : set.testBit i = true
    · rw [if_pos q]
      split <;> split <;> split <;> split <;> omega
    · have e4 := ci.2 q
      rw [if_neg q]
      split <;> split <;> split <;> split <;> omega
  rw [sum, sum] at le
  have g0 := big 0 (by decide)
  have g1 := big 1 (by decide)
  have g2 := big 2 (by decide)
  have g3 := big 3 (by decide)
  have e4 : sU (fun k => if 0 < L k then L k else 0) 4 = (((0 + (if 0 < L 0 then L 0 else 0)) + (if 0 < L 1 then L 1 else 0)) + (if 0 < L 2 then L 2 else 0)) + (if 0 < L 3 then L 3 else 0) := rfl
  rw [e4]
  generalize (if 0 < L 0 then L 0 else 0) = m0 at g0 ⊢
  generalize (if 0 < L 1 then L 1 else 0) = m1 at g1 ⊢
  generalize (if 0 < L 2 then L 2 else 0) = m2 at g2 ⊢
  generalize (if 0 < L 3 then L 3 else 0) = m3 at g3 ⊢
  clear big nn sum e4 c hs
  omega
theorem cmpl_e {n set f : Nat} {sv : Nat → Nat} {L : Nat → Int} {d e : Nat → Nat} (hf : f ≤ cnt D 1) (h : ∀ i, f ≤ i → i < cnt D 1 → d i = e i) (c : cmpl D sv n set f L d) : cmpl D sv n set f L e := by
  obtain ⟨x, hx⟩ : ∃ x, cnt D 1 = f + x := ⟨cnt D 1 - f, by omega⟩
  refine ⟨fun i h1 h2 => ?_, fun k hk => ?_⟩
  · rw [← h i h1 h2]
    exact c.1 i h1 h2
  · have q := c.2 k hk
    have t : sU (fun i => if d i = k then colD D 12 i else 0) (cnt D 1) - sU (fun i => if d i = k then colD D 12 i else 0) f = sU (fun i => if e i = k then colD D 12 i else 0) (cnt D 1) - sU (fun i => if e i = k then colD D 12 i else 0) f := by
      rw [hx]
      refine tl_e x (fun i h1 h2 => ?_)
      show (if d i = k then colD D 12 i else 0) = (if e i = k then colD D 12 i else 0)
      rw [h i h1 (by omega)]
    rw [← t]
    exact q
theorem cmpl_s {n set f : Nat} {sv : Nat → Nat} {L : Nat → Int} {d : Nat → Nat} (hf : f < cnt D 1) (h1 : (set.testBit f = true → ∃ k, k < n ∧ d f = sv k) ∧ (¬ set.testBit f = true → d f = 4)) : cmpl D sv n set f L d ↔ cmpl D sv n set (f + 1) (fun h => if h = d f then L h - colD D 12 f else L h) d := by
  have st : ∀ h, sU (fun i => if d i = h then colD D 12 i else 0) (f + 1) = sU (fun i => if d i = h then colD D 12 i else 0) f + (if d f = h then colD D 12 f else 0) := fun _ => rfl
  constructor
  · intro c
    refine ⟨fun i hi hi2 => c.1 i (by omega) hi2, fun h hh => ?_⟩
    have q := c.2 h hh
    show (if h = d f then L h - colD D 12 f else L h) ≤ _
    rw [st h]
    by_cases e : h = d f
    · rw [if_pos e, if_pos e.symm]
      omega
    · rw [if_neg e, if_neg (show ¬ d f = h from fun z => e z.symm)]
      omega
  · intro c
    refine ⟨fun i hi hi2 => ?_, fun h hh => ?_⟩
    · by_cases e : i = f
      · rw [e]
        exact h1
      · exact c.1 i (by omega) hi2
    · have q : (if h = d f then L h - colD D 12 f else L h) ≤ _ := c.2 h hh
      rw [st h] at q
      by_cases e : h = d f
      · rw [if_pos e, if_pos e.symm] at q
        omega
      · rw [if_neg e, if_neg (show ¬ d f = h from fun z => e z.symm)] at q
        omega
theorem lxd_s {f F : Nat} {a b : Nat → Nat} (hf : f < F) (e : a f = b f) (h : lxd (f + 1) F a b) : lxd f F a b := by
  rcases h with h | ⟨j, j1, j2, j3, j4⟩
  · refine Or.inl (fun i h1 h2 => ?_)
    by_cases q : i = f
    · rw [q]; exact e
    · exact h i (by omega) h2
  · refine Or.inr ⟨j, by omega, j2, fun i h1 h2 => ?_, j4⟩
    by_cases q : i = f
    · rw [q]; exact e
    · exact j3 i (by omega) h2
theorem lxd_e {f F : Nat} {a a' b : Nat → Nat} (h : ∀ i, f ≤ i → i < F → a i = a' i) (l : lxd f F a b) : lxd f F a' b := by
  rcases l with l | ⟨j, j1, j2, j3, j4⟩
  · exact Or.inl (fun i h1 h2 => (h i h1 h2).symm.trans (l i h1 h2))
  · exact Or.inr ⟨j, j1, j2, fun i h1 h2 => (h i h1 (by omega)).symm.trans (j3 i h1 h2), by rw [← h j j1 j2]; exact j4⟩
theorem left_s {set f : Nat} : leftM D set f = (if set.testBit f = true then colD D 12 f else 0) + leftM D set (f + 1) := by
  have e : sU (fun i => if set.testBit i = true then colD D 12 i else 0) (f + 1) = sU (fun i => if set.testBit i = true then colD D 12 i else 0) f + (if set.testBit f = true then colD D 12 f else 0) := rfl
  unfold leftM
  rw [e]
  omega
theorem left_bd (hw : wD D) (hX : wX D) {set f : Nat} (hf : f ≤ cnt D 1) : 0 ≤ leftM D set f ∧ leftM D set f ≤ 400 := by
  have h10 : cnt D 1 ≤ 10 := hw.1 1 (by omega)
  obtain ⟨x, hx⟩ : ∃ x, cnt D 1 = f + x := ⟨cnt D 1 - f, by omega⟩
  have h1 : 0 ≤ leftM D set f := by
    unfold leftM
    rw [hx]
    refine tl_nn x (fun i a b => ?_)
    have := rise_bd hw hX (k := i) (by omega)
    show 0 ≤ (if set.testBit i = true then colD D 12 i else 0)
    split <;> omega
  have h2 := rsA_bd hw hX set
  have h3 : 0 ≤ sU (fun i => if set.testBit i = true then colD D 12 i else 0) f := sU_nn f (fun i hi => by
    have := rise_bd hw hX (k := i) (by omega)
    show 0 ≤ (if set.testBit i = true then colD D 12 i else 0)
    split <;> omega)
  have e : rsA D set = sU (fun i => if set.testBit i = true then colD D 12 i else 0) (cnt D 1) := rsV_sU D set _
  refine ⟨h1, ?_⟩
  unfold leftM
  omega
theorem fills_m (hw : wD D) (hX : wX D) {h hm n set : Nat} {sv : Nat → Nat} (hs : srvd h hm sv n) (h4 : h ≤ 4) (hset : set < 1024) : ∀ (x f : Nat), f + x = cnt D 1 → ∀ (N : Nat) (s : Zs) (L : Nat → Int), flS D sv n s → s 172 68 = 0 → (∀ k, k < 4 → s 226 k = L k) → (∀ k, k < 4 → -40 * (f : Int) ≤ L k ∧ L k ≤ 99) → zC N 1435 [(((172 : Nat) : Int), 0), ((f : Int), 0), ((set : Int), 0), (leftM D set f, 0)] s (flQ D sv n set f L s) := by
  have h10 : cnt D 1 ≤ 10 := hw.1 1 (by omega)
  intro x
  induction x with
  | zero =>
    intro f hf N s L st z0 hL bL
    have loop : ∀ (M j : Nat) (x6 : Int), j ≤ 4 → zT (zE 1435) (Pt PX11_fills) M (6, [((172 : Nat) : Int), (f : Int), (set : Int), leftM D set f, sU (fun k => if 0 < L k then L k else 0) j, (j : Int), x6], [], s) (flQ D sv n set f L s) := by
      intro M
      induction M using Nat.strongRecOn with
      | ind M ih =>
        intro j x6 hj
        refine b_X11_fills_6 _ _ _ _ _ _ s (fun g1 g2 => ?_) (fun g1 g2 g3 g9 g5 => ?_) (fun g1 g2 g3 g9 g5 m hm' => ?_) (fun g1 g2 g3 g9 => ?_) (fun g1 g2 g3 => ?_) (fun g1 m hm' => ?_)
        · have j4 : j = 4 := by omega
          subst j4
          refine ⟨rfl, fun _ _ _ _ => rfl, Or.inr ⟨z0, fun e c => ?_⟩⟩
          have := cmpl_no hw hX hs h4 (by omega) c
          omega
        · rw [st.1] at g9
          exact absurd (show (f : Int) = ((cnt D 1 : Nat) : Int) by omega) g9
        · rw [st.1] at g9
          exact absurd (show (f : Int) = ((cnt D 1 : Nat) : Int) by omega) g9
        · have j4 : j = 4 := by omega
          subst j4
          have ef : f = cnt D 1 := by omega
          have l0 : leftM D set f = 0 := by
            unfold leftM
            rw [← ef]
            omega
          rw [l0] at g2
          have pos : ∀ k, k < 4 → L k ≤ 0 := fun k hk => by
            have b := sU_mem (φ := fun k => if 0 < L k then L k else 0) 4 k hk (fun i _ => by
              show 0 ≤ (if 0 < L i then L i else 0)
              split <;> omega)
            have b : (if 0 < L k then L k else 0) ≤ sU (fun k => if 0 < L k then L k else 0) 4 := b
            by_cases q : 0 < L k
            · rw [if_pos q] at b
              omega
            · omega
          have cc : ∀ e, cmpl D sv n set f L e := fun e => ⟨fun i h1 h2 => by omega, fun k hk => by
            have := pos k hk
            rw [← ef]
            omega⟩
          refine ⟨rfl, fun c i _ h2 => zu_n h2, Or.inl ⟨show zu s 172 68 1 172 68 = 1 from zu_eq _ _ _ _, fun _ => 4, cc _, fun i h1 h2 => by omega, fun e _ => Or.inl (fun i h1 h2 => by omega)⟩⟩
        · exact absurd z0 g3
        · have bl : 0 ≤ sU (fun k => if 0 < L k then L k else 0) j := sU_nn j (fun i _ => by
            show 0 ≤ (if 0 < L i then L i else 0)
            split <;> omega)
          have bu : sU (fun k => if 0 < L k then L k else 0) j ≤ 99 * (j : Int) := sU_K j (fun i hi => by
            have := (bL i (by omega)).2
            show (if 0 < L i then L i else 0) ≤ 99
            split <;> omega)
          have b1 := bL j (by omega)
          have eL : (if 0 < s 226 (j : Int).toNat then s 226 (j : Int).toNat else 0) = (if 0 < L j then L j else 0) := by
            rw [Int.toNat_natCast, hL j (by omega)]
          have bz : 0 ≤ (if 0 < L j then L j else 0) ∧ (if 0 < L j then L j else 0) ≤ 99 := by
            split <;> omega
          rw [eL, w32_k (by omega), w32_id (by omega) (by omega)]
          exact ih m hm' (j + 1) x6 (by omega)
    exact c_X11_fills (b_X11_fills_0 _ _ _ _ _ _ s (loop N 0 _ (Nat.zero_le _)))
  | succ x ihx =>
    intro f hf N s L st z0 hL bL
    have hfF : f < cnt D 1 := by omega
    have rf : s 182 f = colD D 12 f := st.2.1 f hfF
    have rb := rise_bd hw hX hfF
    have lb := left_bd hw hX (set := set) (Nat.le_of_lt hfF)
    have lb2 := left_bd hw hX (set := set) (f := f + 1) (by omega)
    have ls := left_s (D := D) (set := set) (f := f)
    have n4 := hs.1
    have eF : (f : Int) ≠ ((cnt D 1 : Nat) : Int) := by omega
    -- the hills served, one behind the other
    have serve : ∀ (M k : Nat) (s1 : Zs) (x4 x6 : Int), set.testBit f = true → k ≤ n → (∀ c j, ¬ (c = 224 ∧ f ≤ j) → ¬ (c = 172 ∧ j = 68) → s1 c j = s c j) → s1 172 68 = 0 → (∀ j e, j < k → cmpl D sv n set f L e → e f ≠ sv j) → zT (zE 1435) (Pt PX11_fills) M (93, [((172 : Nat) : Int), (f : Int), (set : Int), leftM D set f, x4, (k : Int), x6], [], s1) (flQ D sv n set f L s) := by
      intro M
      induction M using Nat.strongRecOn with
      | ind M ih =>
        intro k s1 x4 x6 hb hk f1 z1 no
        have st1 : flS D sv n s1 := flS_e st (fun c j h1 h2 h3 => f1 c j (fun q => h1 q.1) h3)
        refine b_X11_fills_93 _ _ _ _ _ _ s1 (fun g => ?_) (fun g m hm' => ?_)
        all_goals rw [st1.2.2.1] at g
        · refine ⟨rfl, f1, Or.inr ⟨z1, fun e c => ?_⟩⟩
          obtain ⟨j, j1, j2⟩ := (c.1 f (Nat.le_refl _) hfF).1 hb
          exact no j e (by omega) c j2
        · have hkn : k < n := by omega
          have vk := hs.2.1 k hkn
          have v4 : sv k < 4 := by omega
          have e1 : s1 223 k = ((sv k : Nat) : Int) := st1.2.2.2 k hkn
          have e2 : s1 182 f = colD D 12 f := (f1 _ _ (by omega) (by omega)).trans rf
          have e3 : s1 226 (sv k) = L (sv k) := (f1 _ _ (by omega) (by omega)).trans (hL _ v4)
          have bk := bL _ v4
          rw [if_pos hb] at ls
          have el : w32 (leftM D set f - colD D 12 f) = leftM D set (f + 1) := by
            rw [w32_id (by omega) (by omega)]
            omega
          rw [w32_k (by omega), Int.toNat_natCast, Int.toNat_natCast, e1, Int.toNat_natCast, e2, e3, el, w32_id (z := L (sv k) - colD D 12 f) (by omega) (by omega)]
          have LL : ∃ L' : Nat → Int, L' (sv k) = L (sv k) - colD D 12 f ∧ ∀ i, i ≠ sv k → L' i = L i := ⟨fun i => if i = sv k then L i - colD D 12 f else L i, if_pos rfl, fun i hi => if_neg hi⟩
          obtain ⟨L', p1, p2⟩ := LL
          have same : ∀ e : Nat → Nat, e f = sv k → (cmpl D sv n set f L e ↔ cmpl D sv n set (f + 1) L' e) := fun e he => by
            rw [cmpl_s (d := e) (sv := sv) (n := n) (set := set) (L := L) hfF ⟨fun _ => ⟨k, hkn, he⟩, fun q => absurd hb q⟩]
            have eL : ∀ i, (if i = e f then L i - colD D 12 f else L i) = L' i := fun i => by
              rw [he]
              by_cases q : i = sv k
              · rw [if_pos q, q, p1]
              · rw [if_neg q, p2 i q]
            have eL2 : (fun i => if i = e f then L i - colD D 12 f else L i) = L' := funext eL
            rw [eL2]
          refine zC_q (ihx (f + 1) (by omega) m _ L' (flS_e st1 (fun c j h1 h2 h3 => ?_)) ?_ (fun i hi => ?_) (fun i hi => ?_)) (fun r hr => ?_)
          · rw [zu_n (by omega), zu_n (by omega)]
          · rw [zu_n (by omega), zu_n (by omega)]
            exact z1
          · by_cases q : i = sv k
            · rw [q, zu_eq, p1]
            · rw [zu_n (by omega), zu_n (by omega), p2 i q, f1 _ _ (by omega) (by omega)]
              exact hL i hi
          · by_cases q : i = sv k
            · rw [q, p1]
              omega
            · rw [p2 i q]
              have := bL i hi
              omega
          obtain ⟨r1, s2⟩ := r
          obtain ⟨er, f2, hc⟩ := hr
          have er : r1 = [] := er
          subst er
          have f2 : ∀ c j, ¬ (c = 224 ∧ f + 1 ≤ j) → ¬ (c = 172 ∧ j = 68) → s2 c j = zu (zu s1 224 f ((sv k : Nat) : Int)) 226 (sv k) (L (sv k) - colD D 12 f) c j := f2
          have q6 : s2 226 (sv k) = L (sv k) - colD D 12 f := by
            rw [f2 _ _ (by omega) (by omega)]
            exact zu_eq _ _ _ _
          have q8 : s2 182 f = colD D 12 f := by
            rw [f2 _ _ (by omega) (by omega), zu_n (by omega), zu_n (by omega)]
            exact e2
          have q2 : s2 224 f = ((sv k : Nat) : Int) := by
            rw [f2 _ _ (by omega) (by omega), zu_n (by omega)]
            exact zu_eq _ _ _ _
          have ew : w32 (s2 226 (sv k) + s2 182 f) = L (sv k) := by
            rw [q6, q8, w32_id (by omega) (by omega)]
            omega
          have f3 : ∀ c j, ¬ (c = 224 ∧ f ≤ j) → ¬ (c = 172 ∧ j = 68) → zu s2 226 (sv k) (L (sv k)) c j = s c j := fun c j h1 h2 => by
            by_cases q : c = 226 ∧ j = sv k
            · rw [q.1, q.2, zu_eq]
              exact (hL _ v4).symm
            · rw [zu_n q, f2 c j (by omega) h2, zu_n q, zu_n (by omega)]
              exact f1 c j h1 h2
          refine b_X11_fills_151 _ _ _ _ _ _ s2 (fun g3 m3 hm3 => ?_) (fun g3 => ?_)
          · rw [Int.toNat_natCast, Int.toNat_natCast, ew, w32_k (by omega)]
            rcases hc with hc | hc
            · have : s2 172 68 = 1 := hc.1
              omega
            refine ih m3 (by omega) (k + 1) _ x4 _ hb (by omega) f3 ?_ (fun j e hj c => ?_)
            · rw [zu_n (by omega)]
              exact g3
            · by_cases q : j = k
              · rw [q]
                exact fun z => hc.2 e ((same e z).mp c)
              · exact no j e (by omega) c
          · rw [Int.toNat_natCast, Int.toNat_natCast, ew]
            rcases hc with hc | hc
            rotate_left
            · have : s2 172 68 = 0 := hc.1
              exact absurd this g3
            obtain ⟨g4, d, c1, c2, c3⟩ := hc
            have g4 : s2 172 68 = 1 := g4
            have c2 : ∀ i, f + 1 ≤ i → i < cnt D 1 → s2 224 i = rw9 (d i) := c2
            have dd : ∃ d' : Nat → Nat, d' f = sv k ∧ ∀ i, i ≠ f → d' i = d i := ⟨fun i => if i = f then sv k else d i, if_pos rfl, fun i hi => if_neg hi⟩
            obtain ⟨d', w1, w2⟩ := dd
            refine ⟨rfl, f3, Or.inl ⟨?_, d', (same d' w1).mpr (cmpl_e (by omega) (fun i h1 _ => (w2 i (by omega)).symm) c1), fun i h1 h2 => ?_, fun e c => ?_⟩⟩
            · show zu s2 226 (sv k) (L (sv k)) 172 68 = 1
              rw [zu_n (by omega)]
              exact g4
            · show zu s2 226 (sv k) (L (sv k)) 224 i = rw9 (d' i)
              rw [zu_n (by omega)]
              by_cases q : i = f
              · rw [q, q2, w1]
                unfold rw9
                rw [if_neg (by omega)]
              · rw [w2 i q]
                exact c2 i (by omega) h2
            · obtain ⟨j, j1, j2⟩ := (c.1 f (Nat.le_refl _) hfF).1 hb
              rcases Nat.lt_trichotomy j k with q | q | q
              · exact absurd j2 (no j e q c)
              · rw [q] at j2
                refine lxd_s hfF (w1.trans j2.symm) (lxd_e (fun i h1 _ => (w2 i (by omega)).symm) (c3 e ((same e j2).mp c)))
              · refine Or.inr ⟨f, Nat.le_refl _, hfF, fun i h1 h2 => by omega, ?_⟩
                rw [w1, j2]
                exact hs.2.2.1 k j q j1
    have loop : ∀ (M j : Nat) (x6 : Int), j ≤ 4 → zT (zE 1435) (Pt PX11_fills) M (6, [((172 : Nat) : Int), (f : Int), (set : Int), leftM D set f, sU (fun k => if 0 < L k then L k else 0) j, (j : Int), x6], [], s) (flQ D sv n set f L s) := by
      intro M
      induction M using Nat.strongRecOn with
      | ind M ih =>
        intro j x6 hj
        refine b_X11_fills_6 _ _ _ _ _ _ s (fun g1 g2 => ?_) (fun g1 g2 g3 g9 g5 => ?_) (fun g1 g2 g3 g9 g5 m hm' => ?_) (fun g1 g2 g3 g9 => ?_) (fun g1 g2 g3 => ?_) (fun g1 m hm' => ?_)
        · have j4 : j = 4 := by omega
          subst j4
          refine ⟨rfl, fun _ _ _ _ => rfl, Or.inr ⟨z0, fun e c => ?_⟩⟩
          have := cmpl_no hw hX hs h4 (by omega) c
          omega
        · have hb : set.testBit f = true := Classical.byContradiction fun c => g5 ((zbit0 (by omega) (by omega)).mpr c)
          exact serve M 0 s _ x6 hb (Nat.zero_le _) (fun _ _ _ _ => rfl) z0 (fun j e hj _ => absurd hj (Nat.not_lt_zero j))
        · have hb : ¬ set.testBit f = true := (zbit0 (by omega) (by omega)).mp g5
          rw [if_neg hb, Int.zero_add] at ls
          rw [w32_k (by omega), Int.toNat_natCast, ls]
          have same : ∀ e : Nat → Nat, e f = 4 → (cmpl D sv n set f L e ↔ cmpl D sv n set (f + 1) L e) := fun e he => by
            rw [cmpl_s (d := e) (sv := sv) (n := n) (set := set) (L := L) hfF ⟨fun q => absurd q hb, fun _ => he⟩]
            have cv : ∀ a b : Nat → Int, (∀ i, i < 4 → a i = b i) → cmpl D sv n set (f + 1) a e → cmpl D sv n set (f + 1) b e := fun a b hab c => ⟨c.1, fun i hi => by rw [← hab i hi]; exact c.2 i hi⟩
            have eL : ∀ i, i < 4 → (fun i => if i = e f then L i - colD D 12 f else L i) i = L i := fun i hi => if_neg (by omega)
            exact ⟨cv _ _ eL, cv _ _ (fun i hi => (eL i hi).symm)⟩
          refine zC_q (ihx (f + 1) (by omega) m _ L (flS_e st (fun c j h1 h2 h3 => zu_n (by omega))) ?_ (fun i hi => ?_) (fun i hi => ?_)) (fun r hr => ?_)
          · rw [zu_n (by omega)]
            exact z0
          · rw [zu_n (by omega)]
            exact hL i hi
          · have := bL i hi
            omega
          obtain ⟨r1, s2⟩ := r
          obtain ⟨er, f2, hc⟩ := hr
          have er : r1 = [] := er
          subst er
          have f2 : ∀ c j, ¬ (c = 224 ∧ f + 1 ≤ j) → ¬ (c = 172 ∧ j = 68) → s2 c j = zu s 224 f 9 c j := f2
          refine b_X11_fills_89 _ _ _ _ _ _ s2 ⟨rfl, fun c j h1 h2 => ?_, ?_⟩
          · show s2 c j = s c j
            rw [f2 c j (by omega) h2, zu_n (by omega)]
          · rcases hc with hc | hc
            · obtain ⟨g4, d, c1, c2, c3⟩ := hc
              have c2 : ∀ i, f + 1 ≤ i → i < cnt D 1 → s2 224 i = rw9 (d i) := c2
              have dd : ∃ d' : Nat → Nat, d' f = 4 ∧ ∀ i, i ≠ f → d' i = d i := ⟨fun i => if i = f then 4 else d i, if_pos rfl, fun i hi => if_neg hi⟩
              obtain ⟨d', w1, w2⟩ := dd
              refine Or.inl ⟨g4, d', (same d' w1).mpr (cmpl_e (by omega) (fun i h1 _ => (w2 i (by omega)).symm) c1), fun i h1 h2 => ?_, fun e c => ?_⟩
              · show s2 224 i = rw9 (d' i)
                by_cases q : i = f
                · rw [q, w1, f2 _ _ (by omega) (by omega), zu_eq]
                  rfl
                · rw [w2 i q]
                  exact c2 i (by omega) h2
              · have e4 := (c.1 f (Nat.le_refl _) hfF).2 hb
                exact lxd_s hfF (w1.trans e4.symm) (lxd_e (fun i h1 _ => (w2 i (by omega)).symm) (c3 e ((same e e4).mp c)))
            · exact Or.inr ⟨hc.1, fun e c => hc.2 e ((same e ((c.1 f (Nat.le_refl _) hfF).2 hb)).mp c)⟩
        · rw [st.1] at g9
          exact absurd g9 eF
        · exact absurd z0 g3
        · have bl : 0 ≤ sU (fun k => if 0 < L k then L k else 0) j := sU_nn j (fun i _ => by
            show 0 ≤ (if 0 < L i then L i else 0)
            split <;> omega)
          have bu : sU (fun k => if 0 < L k then L k else 0) j ≤ 99 * (j : Int) := sU_K j (fun i hi => by
            have := (bL i (by omega)).2
            show (if 0 < L i then L i else 0) ≤ 99
            split <;> omega)
          have eL : (if 0 < s 226 (j : Int).toNat then s 226 (j : Int).toNat else 0) = (if 0 < L j then L j else 0) := by
            rw [Int.toNat_natCast, hL j (by omega)]
          have b1 := bL j (by omega)
          have bz : 0 ≤ (if 0 < L j then L j else 0) ∧ (if 0 < L j then L j else 0) ≤ 99 := by
            split <;> omega
          rw [eL, w32_k (by omega), w32_id (by omega) (by omega)]
          exact ih m hm' (j + 1) x6 (by omega)
    exact c_X11_fills (b_X11_fills_0 _ _ _ _ _ _ s (loop N 0 _ (Nat.zero_le _)))
theorem isFirst_m (hm : mT s D) (hw : wD D) {d e : Nat → Nat} (hd : ∀ f, f < cnt D 1 → d f ≤ 4) (he : ∀ f, f < cnt D 1 → e f ≤ 4) (r1 : ∀ f, f < cnt D 1 → s 224 f = rw9 (d f)) (r2 : ∀ f, f < cnt D 1 → s 225 f = rw9 (e f)) : zC N 1446 [(((172 : Nat) : Int), 0)] s (fun r => ∃ v, r = ([(v, 0)], s) ∧ ((v = 1 ∧ ∃ j, j < cnt D 1 ∧ (∀ i, i < j → d i = e i) ∧ d j < e j) ∨ (v = 0 ∧ lxd 0 (cnt D 1) e d))) := by
  have h10 : cnt D 1 ≤ 10 := hw.1 1 (by omega)
  have c1 : s 174 1 = ((cnt D 1 : Nat) : Int) := hm.1 1 (by omega)
  have loop : ∀ (M f : Nat), f ≤ cnt D 1 → (∀ i, i < f → d i = e i) → zT (zE 1446) (Pt PX11_isFirst) M (2, [((172 : Nat) : Int), (f : Int)], [], s) (fun r => ∃ v, r = ([(v, 0)], s) ∧ ((v = 1 ∧ ∃ j, j < cnt D 1 ∧ (∀ i, i < j → d i = e i) ∧ d j < e j) ∨ (v = 0 ∧ lxd 0 (cnt D 1) e d))) := by
    intro M
    induction M using Nat.strongRecOn with
    | ind M ih =>
      intro f hf h
      refine b_X11_isFirst_2 _ s (fun g => ?_) (fun g g2 m hm' => ?_) (fun g g2 g3 => ?_) (fun g g2 g3 => ?_)
      all_goals rw [c1] at g
      · exact ⟨0, rfl, Or.inr ⟨rfl, Or.inl (fun i _ hi => (h i (by omega)).symm)⟩⟩
      all_goals
        have hf2 : f < cnt D 1 := by omega
        rw [Int.toNat_natCast, r1 f hf2, r2 f hf2] at g2
      · rw [w32_k (by omega)]
        have q := (rw9_eq (hd f hf2) (he f hf2)).mp g2
        refine ih m hm' (f + 1) (by omega) (fun i hi => ?_)
        by_cases c : i = f
        · rw [c]
          exact q
        · exact h i (by omega)
      · rw [Int.toNat_natCast, r1 f hf2, r2 f hf2] at g3
        have n1 : ¬ d f < e f := fun q => by
          have := (rw9_lt (hd f hf2) (he f hf2)).mpr q
          omega
        have n2 : d f ≠ e f := fun q => g2 (congrArg rw9 q)
        exact ⟨0, rfl, Or.inr ⟨rfl, Or.inr ⟨f, Nat.zero_le _, hf2, fun i _ hi => (h i hi).symm, by omega⟩⟩⟩
      · rw [Int.toNat_natCast, r1 f hf2, r2 f hf2] at g3
        exact ⟨1, rfl, Or.inl ⟨rfl, f, hf2, h, (rw9_lt (hd f hf2) (he f hf2)).mp g3⟩⟩
  exact c_X11_isFirst (b_X11_isFirst_0 _ s (loop N 0 (Nat.zero_le _) (fun i hi => absurd hi (Nat.not_lt_zero i))))
def pyM (D : ZD) (x : Nat) : Int := sU (fun h => if x.testBit h = true then colD D 41 h else 0) (cnt D 4)
theorem payOf_m (hm : mT s D) (hw : wD D) (hX : wX D) {x : Nat} (hx : x < 16) : zC N 1487 [(((172 : Nat) : Int), 0), ((x : Int), 0)] s (fun r => r = ([(pyM D x, 0)], s)) := by
  have h4 : cnt D 4 ≤ 4 := hw.1 4 (by omega)
  have c4 : s 174 4 = ((cnt D 4 : Nat) : Int) := hm.1 4 (by omega)
  have hp := od_hp hw hX
  have loop : ∀ (M h : Nat), h ≤ cnt D 4 → zT (zE 1487) (Pt PX11_payOf) M (4, [((172 : Nat) : Int), (x : Int), sU (fun h => if x.testBit h = true then colD D 41 h else 0) h, (h : Int)], [], s) (fun r => r = ([(pyM D x, 0)], s)) := by
    intro M
    induction M using Nat.strongRecOn with
    | ind M ih =>
      intro h hh
      have b0 : 0 ≤ sU (fun h => if x.testBit h = true then colD D 41 h else 0) h := sU_nn h (fun i hi => by
        have := hp i (by omega)
        show 0 ≤ (if x.testBit i = true then colD D 41 i else 0)
        split <;> omega)
      have b1 : sU (fun h => if x.testBit h = true then colD D 41 h else 0) h ≤ 99 * (h : Int) := sU_K h (fun i hi => by
        have := hp i (by omega)
        show (if x.testBit i = true then colD D 41 i else 0) ≤ 99
        split <;> omega)
      have es : sU (fun h => if x.testBit h = true then colD D 41 h else 0) (h + 1) = sU (fun h => if x.testBit h = true then colD D 41 h else 0) h + (if x.testBit h = true then colD D 41 h else 0) := rfl
      refine b_X11_payOf_4 _ _ _ s (fun g => ?_) (fun g g2 m hm' => ?_) (fun g g2 m hm' => ?_)
      all_goals rw [c4] at g
      · have : h = cnt D 4 := by omega
        subst this
        rfl
      · have q : ¬ x.testBit h = true := fun q => g2 ((zbit1 (by omega) (by omega)).mpr q)
        rw [if_neg q] at es
        rw [w32_k (by omega), w32_id (by omega) (by omega), ← es]
        exact ih m hm' (h + 1) (by omega)
      · have q : x.testBit h = true := (zbit1 (by omega) (by omega)).mp g2
        have r1 : s 191 h = colD D 41 h := mcol hm hw (k := 4) (j := 1) (by omega) (by omega) (by decide) (by decide) (by omega)
        have bp := hp h (by omega)
        rw [if_pos q] at es
        rw [Int.toNat_natCast, r1, w32_k (by omega), w32_id (by omega) (by omega), ← es]
        exact ih m hm' (h + 1) (by omega)
  exact c_X11_payOf (b_X11_payOf_0 _ _ _ s (loop N 0 (Nat.zero_le _)))
abbrev gdD (D : ZD) (G : Nat) (e : Nat → Nat) : Prop := gdd (cnt D 1) (cnt D 4) (colD D 12) (colD D 40) G e
abbrev vlD (D : ZD) (G : Nat) (e : Nat → Nat) : Int := vld (cnt D 1) (cnt D 4) (colD D 12) (colD D 40) (colD D 41) G e
abbrev pyD (D : ZD) (e : Nat → Nat) : Int := pyd (cnt D 1) (cnt D 4) (colD D 12) (colD D 40) (colD D 41) e
abbrev rsD (D : ZD) (e : Nat → Nat) : Int := rsd (cnt D 1) (colD D 12) e
/-- which hills get some, of which flights -/
def belD (D : ZD) (x set : Nat) (e : Nat → Nat) : Prop := (∀ h, h < cnt D 4 → (x.testBit h = true ↔ ∃ f, f < cnt D 1 ∧ e f = h)) ∧ ∀ f, f < cnt D 1 → (set.testBit f = true ↔ e f ≠ 4)
def bsM (D : ZD) (s : Zs) (d : Nat → Nat) : Prop := s 172 69 = pyD D d ∧ s 172 70 = rsD D d ∧ ∀ f, f < cnt D 1 → s 225 f = rw9 (d f)
theorem bel_py (hw : wD D) (hX : wX D) {G x set : Nat} {e : Nat → Nat} (ge : gdD D G e) (b : belD D x set e) : pyD D e = pyM D x := sU_e _ (fun k hk => by
  have h4 : cnt D 4 ≤ 4 := hw.1 4 (by omega)
  have hh := (od_hh hw hX k hk).1
  show (if colD D 40 k ≤ gvd (cnt D 1) (colD D 12) e k then colD D 41 k else 0) = (if x.testBit k = true then colD D 41 k else 0)
  by_cases q : x.testBit k = true
  · obtain ⟨f, f1, f2⟩ := (b.1 k hk).mp q
    have z := ge.2 f f1 (by omega)
    rw [f2] at z
    rw [if_pos q, if_pos z]
  · have z : ¬ colD D 40 k ≤ gvd (cnt D 1) (colD D 12) e k := fun z => q ((b.1 k hk).mpr (gvd_out (od_hr hw hX) (by omega)))
    rw [if_neg q, if_neg z])
theorem bel_rs {x set : Nat} {e : Nat → Nat} (b : belD D x set e) : rsD D e = rsA D set := by
  unfold rsA
  rw [rsV_sU]
  refine sU_e _ (fun f hf => ?_)
  show (if e f = 4 then 0 else colD D 12 f) = (if set.testBit f = true then colD D 12 f else 0)
  by_cases q : e f = 4
  · rw [if_pos q, if_neg (show ¬ set.testBit f = true from fun z => (b.2 f hf).mp z q)]
  · rw [if_neg q, if_pos ((b.2 f hf).mpr q)]
def lak0 (D : ZD) (x h : Nat) : Int := if x.testBit h = true then colD D 40 h else 0
theorem cmp_of (hw : wD D) (hX : wX D) {G x set n : Nat} {sv e : Nat → Nat} (hs : srvd (cnt D 4) x sv n) (hx : x < 2 ^ cnt D 4) (ge : gdD D G e) (b : belD D x set e) : cmpl D sv n set 0 (lak0 D x) e := by
  have h4 : cnt D 4 ≤ 4 := hw.1 4 (by omega)
  refine ⟨fun i _ hi => ⟨fun q => ?_, fun q => Classical.byContradiction fun z => q ((b.2 i hi).mpr z)⟩, fun h hh => ?_⟩
  · have e4 := (b.2 i hi).mp q
    rcases ge.1 i hi with z | z
    · exact absurd z e4
    · obtain ⟨k, k1, k2⟩ := hs.2.2.2 (e i) z.1 ((b.1 _ z.1).mpr ⟨i, hi, rfl⟩)
      exact ⟨k, k1, k2.symm⟩
  · show lak0 D x h ≤ gvd (cnt D 1) (colD D 12) e h - 0
    have nn := gvd_nn (F := cnt D 1) (r := colD D 12) (d := e) (od_hr hw hX) (h := h)
    unfold lak0
    by_cases q : x.testBit h = true
    · obtain ⟨f, f1, f2⟩ := (b.1 h (tb_lt hx q)).mp q
      have z := ge.2 f f1 (by omega)
      rw [f2] at z
      rw [if_pos q]
      omega
    · rw [if_neg q]
      omega
theorem of_cmp (hw : wD D) (hX : wX D) {G x set n : Nat} {sv d : Nat → Nat} (hs : srvd (cnt D 4) x sv n) (hG : ∀ i, set.testBit i = true → G.testBit i = true) (c : cmpl D sv n set 0 (lak0 D x) d) : gdD D G d ∧ belD D x set d := by
  have h4 : cnt D 4 ≤ 4 := hw.1 4 (by omega)
  have inS : ∀ f, f < cnt D 1 → d f ≠ 4 → set.testBit f = true := fun f hf q => Classical.byContradiction fun z => q ((c.1 f (Nat.zero_le _) hf).2 z)
  have enough : ∀ k, k < n → colD D 40 (sv k) ≤ gvd (cnt D 1) (colD D 12) d (sv k) := fun k hk => by
    have z := hs.2.1 k hk
    have q : lak0 D x (sv k) ≤ gvd (cnt D 1) (colD D 12) d (sv k) - 0 := c.2 (sv k) (by omega)
    unfold lak0 at q
    rw [if_pos z.2] at q
    omega
  refine ⟨⟨fun f hf => ?_, fun f hf q => ?_⟩, fun h hh => ⟨fun q => ?_, fun q => ?_⟩, fun f hf => ⟨fun q => ?_, inS f hf⟩⟩
  · by_cases q : d f = 4
    · exact Or.inl q
    · have z := inS f hf q
      obtain ⟨k, k1, k2⟩ := (c.1 f (Nat.zero_le _) hf).1 z
      rw [k2]
      exact Or.inr ⟨(hs.2.1 k k1).1, hG f z⟩
  · obtain ⟨k, k1, k2⟩ := (c.1 f (Nat.zero_le _) hf).1 (inS f hf q)
    rw [k2]
    exact enough k k1
  · obtain ⟨k, k1, k2⟩ := hs.2.2.2 h hh q
    have z := enough k k1
    rw [k2] at z
    have := (od_hh hw hX h hh).1
    exact gvd_out (od_hr hw hX) (by omega)
  · obtain ⟨f, f1, f2⟩ := q
    obtain ⟨k, k1, k2⟩ := (c.1 f (Nat.zero_le _) f1).1 (inS f f1 (by omega))
    rw [← f2, k2]
    exact (hs.2.1 k k1).2
  · obtain ⟨k, k1, k2⟩ := (c.1 f (Nat.zero_le _) hf).1 q
    have := (hs.2.1 k k1).1
    omega
def skQ (D : ZD) (G x set : Nat) (d : Nat → Nat) (s : Zs) (r : Zr) : Prop := r.1 = [] ∧ (∀ c j, c ≠ 224 → c ≠ 225 → c ≠ 226 → ¬ (c = 172 ∧ 68 ≤ j ∧ j ≤ 70) → r.2 c j = s c j) ∧ ∃ d', gdD D G d' ∧ bsM D r.2 d' ∧ ∀ e, (e = d ∨ (gdD D G e ∧ belD D x set e)) → vlD D G e ≤ vlD D G d'
theorem seeks_m (hm : mT s D) (hw : wD D) (hX : wX D) {G x set n : Nat} {sv d : Nat → Nat} (hs : srvd (cnt D 4) x sv n) (hx : x < 2 ^ cnt D 4) (h7 : cnB (fun f => G.testBit f) (cnt D 1) ≤ 7) (hset : set < 2 ^ cnt D 1) (hG : ∀ i, set.testBit i = true → G.testBit i = true) (hn : s 172 64 = ((n : Nat) : Int)) (hsv : ∀ k, k < n → s 223 k = ((sv k : Nat) : Int)) (hc : CGp D sv n set) (gd : gdD D G d) (bs : bsM D s d) : zC N 1509 [(((172 : Nat) : Int), 0), ((x : Int), 0), ((set : Int), 0)] s (skQ D G x set d s) := by
  have h10 : cnt D 1 ≤ 10 := hw.1 1 (by omega)
  have h4 : cnt D 4 ≤ 4 := hw.1 4 (by omega)
  have b3 : 2 ^ cnt D 1 ≤ 2 ^ 10 := Nat.pow_le_pow_right (by decide) h10
  have b4 : (2 : Nat) ^ 10 = 1024 := by decide
  have b6 : 2 ^ cnt D 4 ≤ 2 ^ 4 := Nat.pow_le_pow_right (by decide) h4
  have b7 : (2 : Nat) ^ 4 = 16 := by decide
  have eR : rsA D set = leftM D set 0 := by
    unfold rsA leftM
    rw [rsV_sU]
    show _ = _ - (0 : Int)
    rw [Int.sub_zero]
  have bd : ∀ e, gdD D G e → 0 ≤ rsD D e ∧ rsD D e ≤ 280 ∧ 0 ≤ wtd G e (cnt D 1) ∧ wtd G e (cnt D 1) ≤ 78124 := fun e ge => vld_bd (od_hr hw hX) ge.1 h4 h7
  have ev : ∀ e, vlD D G e = 67108864 * pyD D e - 131072 * rsD D e - wtd G e (cnt D 1) := fun _ => rfl
  have lb := left_bd hw hX (set := set) (f := 0) (Nat.zero_le _)
  -- it is no better than what stands
  have stay : ∀ (s1 : Zs), (∀ c j, c ≠ 224 → c ≠ 225 → c ≠ 226 → ¬ (c = 172 ∧ 68 ≤ j ∧ j ≤ 70) → s1 c j = s c j) → bsM D s1 d → (∀ e, gdD D G e → belD D x set e → vlD D G e ≤ vlD D G d) → skQ D G x set d s ([], s1) := fun s1 f1 b1 h => ⟨rfl, f1, d, gd, b1, fun e he => by
    rcases he with rfl | ⟨g1, g2⟩
    · exact Int.le_refl _
    · exact h e g1 g2⟩
  refine c_X11_seeks (b_X11_seeks_0 _ _ _ _ _ s (fun m0 _ => ?_))
  refine zC_q (payOf_m hm hw hX (by omega)) (fun r hr => ?_)
  subst hr
  refine b_X11_seeks_5 _ _ _ _ _ _ s (fun m1 _ => ?_)
  refine zC_q (riseOf_m hm hw hX (T := set) (by omega)) (fun r hr => ?_)
  subst hr
  rw [eR]
  have same : ∀ e, gdD D G e → belD D x set e → pyD D e = pyM D x ∧ rsD D e = leftM D set 0 := fun e g1 g2 => ⟨bel_py hw hX g1 g2, (bel_rs g2).trans eR⟩
  have go : ∀ M, pyD D d ≤ pyM D x → (pyM D x ≠ pyD D d ∨ leftM D set 0 ≤ rsD D d) → zT (zE 1509) (Pt PX11_seeks) M (42, [((172 : Nat) : Int), (x : Int), (set : Int), pyM D x, leftM D set 0, 0], [], s) (skQ D G x set d s) := by
    intro M o1 o2
    have loop : ∀ (M h : Nat) (s1 : Zs), h ≤ 4 → (∀ c j, c ≠ 226 → s1 c j = s c j) → (∀ k, k < h → s1 226 k = lak0 D x k) → zT (zE 1509) (Pt PX11_seeks) M (42, [((172 : Nat) : Int), (x : Int), (set : Int), pyM D x, leftM D set 0, (h : Int)], [], s1) (skQ D G x set d s) := by
      intro M
      induction M using Nat.strongRecOn with
      | ind M ih =>
        intro h s1 hh f1 hL
        have put : ∀ (m : Nat) (v : Int), m < M → h < 4 → v = lak0 D x h → zT (zE 1509) (Pt PX11_seeks) m (42, [((172 : Nat) : Int), (x : Int), (set : Int), pyM D x, leftM D set 0, w32 ((h : Int) + 1)], [], zu s1 226 (h : Int).toNat v) (skQ D G x set d s) := fun m v hm' h3 hv => by
          rw [w32_k (by omega), Int.toNat_natCast]
          refine ih m hm' (h + 1) _ (by omega) (fun c j q => ?_) (fun k hk => ?_)
          · rw [zu_n (by omega)]
            exact f1 c j q
          · by_cases q : k = h
            · rw [q, zu_eq]
              exact hv
            · rw [zu_n (by omega)]
              exact hL k (by omega)
        refine b_X11_seeks_42 _ _ _ _ _ s1 (fun g m hm' => ?_) (fun g g2 m hm' => ?_) (fun g g2 m hm' => ?_)
        · have h4' : h = 4 := by omega
          subst h4'
          have st : flS D sv n (zu s1 172 68 0) := ⟨by rw [zu_n (by omega), f1 _ _ (by decide)]; exact hm.1 1 (by omega), fun i hi => by rw [zu_n (by omega), f1 _ _ (by decide)]; exact mcol hm hw (k := 1) (j := 2) (by omega) (by omega) (by decide) (by decide) hi, by rw [zu_n (by omega), f1 _ _ (by decide)]; exact hn, fun k hk => by rw [zu_n (by omega), f1 _ _ (by decide)]; exact hsv k hk⟩
          refine zC_q (fills_m hw hX hs h4 (by omega) (cnt D 1) 0 (by omega) m (zu s1 172 68 0) (lak0 D x) st (zu_eq _ _ _ _) (fun k hk => by rw [zu_n (by omega)]; exact hL k hk) (fun k hk => ?_)) (fun r hr => ?_)
          · unfold lak0
            by_cases q : x.testBit k = true
            · have := od_hh hw hX k (tb_lt hx q)
              rw [if_pos q]
              omega
            · rw [if_neg q]
              omega
          obtain ⟨r1, s2⟩ := r
          obtain ⟨er, f2, hfl⟩ := hr
          have er : r1 = [] := er
          subst er
          have f2 : ∀ c j, ¬ (c = 224 ∧ 0 ≤ j) → ¬ (c = 172 ∧ j = 68) → s2 c j = zu s1 172 68 0 c j := f2
          have f3 : ∀ c j, c ≠ 224 → c ≠ 226 → ¬ (c = 172 ∧ j = 68) → s2 c j = s c j := fun c j h1 h2 h3 => by
            rw [f2 c j (fun q => h1 q.1) h3, zu_n h3]
            exact f1 c j h2
          rcases hfl with hfl | hfl
          rotate_left
          · obtain ⟨d9, d1, d2⟩ := CG_d hs h4 n set (Nat.le_refl _) (by omega) hc
            refine absurd ?_ (hfl.2 d9)
            refine ⟨fun i _ _ => d1 i, fun k hk => ?_⟩
            show lak0 D x k ≤ gvd (cnt D 1) (colD D 12) d9 k - 0
            have nn := gvd_nn (F := cnt D 1) (r := colD D 12) (d := d9) (od_hr hw hX) (h := k)
            unfold lak0
            by_cases q : x.testBit k = true
            · obtain ⟨j, j1, j2⟩ := hs.2.2.2 k (tb_lt hx q) q
              have := d2 j j1
              rw [j2] at this
              rw [if_pos q]
              omega
            · rw [if_neg q]
              omega
          obtain ⟨-, d1, c1, c2, c3⟩ := hfl
          have c2 : ∀ i, 0 ≤ i → i < cnt D 1 → s2 224 i = rw9 (d1 i) := c2
          obtain ⟨g1, be1⟩ := of_cmp hw hX hs hG c1
          have sm1 := same d1 g1 be1
          have e69 : s2 172 69 = pyD D d := (f3 _ _ (by decide) (by decide) (by decide)).trans bs.1
          have e70 : s2 172 70 = rsD D d := (f3 _ _ (by decide) (by decide) (by decide)).trans bs.2.1
          have best1 : ∀ e, gdD D G e → belD D x set e → vlD D G e ≤ vlD D G d1 := fun e ge be => by
            have q1 := same e ge be
            have q2 := wtd_lx g1.1 ge.1 h4 (c3 e (cmp_of hw hX hs hx ge be))
            rw [ev, ev, q1.1, q1.2, sm1.1, sm1.2]
            omega
          have upd : ∀ M2, vlD D G d ≤ vlD D G d1 → zT (zE 1509) (Pt PX11_seeks) M2 (134, [((172 : Nat) : Int), (x : Int), (set : Int), pyM D x, leftM D set 0, 0], [], zu (zu s2 172 69 (pyM D x)) 172 70 (leftM D set 0)) (skQ D G x set d s) := by
            intro M2 better
            have cp : ∀ (M3 f : Nat) (s3 : Zs), f ≤ 10 → (∀ c j, c ≠ 225 → s3 c j = zu (zu s2 172 69 (pyM D x)) 172 70 (leftM D set 0) c j) → (∀ i, i < f → s3 225 i = s2 224 i) → zT (zE 1509) (Pt PX11_seeks) M3 (134, [((172 : Nat) : Int), (x : Int), (set : Int), pyM D x, leftM D set 0, (f : Int)], [], s3) (skQ D G x set d s) := by
              intro M3
              induction M3 using Nat.strongRecOn with
              | ind M3 ih3 =>
                intro f s3 hf f4 hr3
                refine b_X11_seeks_134 _ _ _ _ _ s3 (fun g5 => ?_) (fun g5 m5 hm5 => ?_)
                · refine ⟨rfl, fun c j q1 q2 q3 q4 => ?_, d1, g1, ⟨?_, ?_, fun i hi => ?_⟩, fun e he => ?_⟩
                  · show s3 c j = s c j
                    rw [f4 c j q2, zu_n (by omega), zu_n (by omega)]
                    exact f3 c j q1 q3 (by omega)
                  · show s3 172 69 = pyD D d1
                    rw [f4 _ _ (by decide), zu_n (by omega), zu_eq]
                    exact sm1.1.symm
                  · show s3 172 70 = rsD D d1
                    rw [f4 _ _ (by decide), zu_eq]
                    exact sm1.2.symm
                  · show s3 225 i = rw9 (d1 i)
                    rw [hr3 i (by omega)]
                    exact c2 i (Nat.zero_le _) hi
                  · rcases he with rfl | ⟨q1, q2⟩
                    · exact better
                    · exact best1 e q1 q2
                · have e4 : s3 224 f = s2 224 f := by
                    rw [f4 _ _ (by decide), zu_n (by omega), zu_n (by omega)]
                  rw [w32_k (by omega), Int.toNat_natCast, e4]
                  refine ih3 m5 hm5 (f + 1) _ (by omega) (fun c j q => ?_) (fun i hi => ?_)
                  · rw [zu_n (by omega)]
                    exact f4 c j q
                  · by_cases q : i = f
                    · rw [q, zu_eq]
                    · rw [zu_n (by omega)]
                      exact hr3 i (by omega)
            exact cp M2 0 _ (Nat.zero_le _) (fun _ _ _ => rfl) (fun i hi => absurd hi (Nat.not_lt_zero i))
          have bdd := bd d gd
          have bd1 := bd d1 g1
          refine b_X11_seeks_95 _ _ _ _ _ s2 (fun g5 => ?_) (fun g5 g6 => ?_) (fun g5 g6 m5 _ => ?_)
          · rw [e69] at g5
            refine upd _ ?_
            rw [ev, ev, sm1.1, sm1.2]
            rw [sm1.2] at bd1
            omega
          · rw [e69] at g5
            rw [e70] at g6
            refine upd _ ?_
            rw [ev, ev, sm1.1, sm1.2]
            rw [sm1.2] at bd1
            rcases o2 with o2 | o2
            · exact absurd g5 o2
            · omega
          · rw [e69] at g5
            rw [e70] at g6
            have hm2 : mT s2 D := mT_e (fun c j a b => f3 c j (by omega) (by omega) (by omega)) hm
            refine zC_q (isFirst_m hm2 hw (d := d1) (e := d) (fun f hf => okd_4 g1.1 h4 f hf) (fun f hf => okd_4 gd.1 h4 f hf) (fun f hf => c2 f (Nat.zero_le _) hf) (fun f hf => (f3 _ _ (by decide) (by decide) (by omega)).trans (bs.2.2 f hf))) (fun r hr => ?_)
            obtain ⟨v, rfl, hv⟩ := hr
            refine b_X11_seeks_116 _ _ _ _ _ _ s2 (fun g7 => ?_) (fun g7 => ?_)
            · rcases hv with ⟨-, j, j1, j2, j3⟩ | ⟨z, -⟩
              · refine upd _ ?_
                have wl := wtd_lt g1.1 gd.1 h4 j1 j2 j3
                rw [ev, ev, sm1.1, sm1.2]
                omega
              · exact absurd z g7
            · rcases hv with ⟨z, -⟩ | ⟨-, lx⟩
              · omega
              · refine stay s2 (fun c j q1 q2 q3 q4 => f3 c j q1 q3 (by omega)) ⟨e69, e70, fun f hf => (f3 _ _ (by decide) (by decide) (by omega)).trans (bs.2.2 f hf)⟩ (fun e ge be => ?_)
                have q1 := best1 e ge be
                have q2 := wtd_lx gd.1 g1.1 h4 lx
                rw [ev d1, sm1.1, sm1.2] at q1
                rw [ev d]
                omega
        · have q : ¬ x.testBit h = true := fun q => g2 ((zbit1 (by omega) (by omega)).mpr q)
          exact put m _ hm' (by omega) (if_neg q).symm
        · have q : x.testBit h = true := (zbit1 (by omega) (by omega)).mp g2
          have r0 : s1 190 (h : Int).toNat = colD D 40 h := by
            rw [Int.toNat_natCast, f1 _ _ (by decide)]
            exact mcol hm hw (k := 4) (j := 0) (by omega) (by omega) (by decide) (by decide) (tb_lt hx q)
          rw [r0]
          exact put m _ hm' (by omega) (if_pos q).symm
    exact loop M 0 s (Nat.zero_le _) (fun _ _ _ => rfl) (fun k hk => absurd hk (Nat.not_lt_zero k))
  have bdd := bd d gd
  refine b_X11_seeks_11 _ _ _ _ _ _ s (fun g => ?_) (fun g g2 => ?_) (fun g g2 g3 => ?_) (fun g g2 g3 => ?_)
  all_goals rw [bs.1] at g
  · refine stay s (fun _ _ _ _ _ _ => rfl) bs (fun e ge be => ?_)
    have q := same e ge be
    have b := bd e ge
    rw [ev, ev, q.1]
    omega
  all_goals rw [bs.1] at g2
  · exact go _ g (Or.inl g2)
  all_goals rw [bs.2.1] at g3
  · exact go _ g (Or.inr g3)
  · refine stay s (fun _ _ _ _ _ _ => rfl) bs (fun e ge be => ?_)
    have q := same e ge be
    have b := bd e ge
    rw [ev, ev, q.1, q.2, g2]
    omega
/-! the first seven, as the model has them -/
def mG (x f : Nat) : Nat := bset (fun i => x.testBit i && (decide (i < f) || decide (cnB (fun i => x.testBit i) i < 7))) 10
theorem mG_tb {x f i : Nat} : (mG x f).testBit i = true ↔ (i < 10 ∧ x.testBit i = true ∧ (i < f ∨ cnB (fun i => x.testBit i) i < 7)) := by
  unfold mG
  rw [bset_tb]
  simp only [Bool.and_eq_true, Bool.or_eq_true, decide_eq_true_eq]
theorem tb_ext {a b : Nat} (h : ∀ i, a.testBit i = true ↔ b.testBit i = true) : a = b := by
  apply Nat.eq_of_testBit_eq
  intro i
  exact Bool.eq_iff_iff.mpr (h i)
theorem mG_lt (x f : Nat) : mG x f < 1024 := bset_lt _ 10
theorem mG_s {x f : Nat} (hf : f < 10) : (bcn (mG x (f + 1)) ≤ 7 → mG x f = mG x (f + 1)) ∧ (7 < bcn (mG x (f + 1)) → ndf (mG x (f + 1)) (2 ^ f) = mG x f) := by
  have lt := mG_lt x (f + 1)
  have p2 : 2 ^ f ≤ 2 ^ 9 := Nat.pow_le_pow_right (by decide) (by omega)
  have p9 : (2 : Nat) ^ 9 = 512 := by decide
  have tn : ∀ i, (ndf (mG x (f + 1)) (2 ^ f)).testBit i = true ↔ ((mG x (f + 1)).testBit i = true ∧ i ≠ f) := fun i => by
    rw [ndf_tb (by omega) (by omega), Nat.testBit_two_pow]
    simp only [Bool.and_eq_true, Bool.not_eq_true', decide_eq_false_iff_not]
    exact ⟨fun q => ⟨q.1, fun z => q.2 z.symm⟩, fun q => ⟨q.1, fun z => q.2 z.symm⟩⟩
  rw [bcn_cnB]
  by_cases c : cnB (fun i => x.testBit i) f < 7
  · have e1 : mG x f = mG x (f + 1) := tb_ext (fun i => by
      rw [mG_tb, mG_tb]
      refine ⟨fun q => ⟨q.1, q.2.1, ?_⟩, fun q => ⟨q.1, q.2.1, ?_⟩⟩
      · rcases q.2.2 with z | z
        · exact Or.inl (by omega)
        · exact Or.inr z
      · rcases q.2.2 with z | z
        · by_cases e : i = f
          · rw [e]
            exact Or.inr c
          · exact Or.inl (by omega)
        · exact Or.inr z)
    have e2 : mG x (f + 1) = g7 x := tb_ext (fun i => by
      rw [mG_tb, g7_tb]
      refine ⟨fun q => ⟨q.1, q.2.1, ?_⟩, fun q => ⟨q.1, q.2.1, Or.inr q.2.2⟩⟩
      rcases q.2.2 with z | z
      · have := cnB_mn (p := fun i => x.testBit i) (show i ≤ f by omega)
        omega
      · exact z)
    refine ⟨fun _ => e1, fun q => ?_⟩
    rw [e2] at q
    have := g7_le (x := x) (n := 10) (Nat.le_refl _)
    omega
  · by_cases b : x.testBit f = true
    · refine ⟨fun q => ?_, fun _ => tb_ext (fun i => ?_)⟩
      · have h1 := cnB_mn (p := fun i => (mG x (f + 1)).testBit i) (show f + 1 ≤ 10 by omega)
        have h2 : cnB (fun i => (mG x (f + 1)).testBit i) (f + 1) = cnB (fun i => x.testBit i) (f + 1) := cnB_ext _ (fun i hi => by
          have t := mG_tb (x := x) (f := f + 1) (i := i)
          show (mG x (f + 1)).testBit i = x.testBit i
          cases hx : x.testBit i with
          | true => exact t.mpr ⟨by omega, hx, Or.inl hi⟩
          | false => exact Bool.eq_false_iff.mpr (fun z => by
              have := (t.mp z).2.1
              rw [hx] at this
              cases this))
        have h3 := cnB_y (p := fun i => x.testBit i) (k := f) b
        omega
      · rw [tn, mG_tb, mG_tb]
        refine ⟨fun q => ⟨q.1.1, q.1.2.1, ?_⟩, fun q => ⟨⟨q.1, q.2.1, ?_⟩, fun z => ?_⟩⟩
        · rcases q.1.2.2 with z | z
          · exact Or.inl (by have := q.2; omega)
          · exact Or.inr z
        · rcases q.2.2 with z | z
          · exact Or.inl (by omega)
          · exact Or.inr z
        · rw [z] at q
          rcases q.2.2 with z2 | z2
          · omega
          · exact c z2
    · have e1 : mG x f = mG x (f + 1) := tb_ext (fun i => by
        rw [mG_tb, mG_tb]
        refine ⟨fun q => ⟨q.1, q.2.1, ?_⟩, fun q => ⟨q.1, q.2.1, ?_⟩⟩
        · rcases q.2.2 with z | z
          · exact Or.inl (by omega)
          · exact Or.inr z
        · rcases q.2.2 with z | z
          · by_cases e : i = f
            · rw [e] at q
              exact absurd q.2.1 b
            · exact Or.inl (by omega)
          · exact Or.inr z)
      refine ⟨fun _ => e1, fun _ => ?_⟩
      rw [e1]
      exact tb_ext (fun i => by
        rw [tn]
        refine ⟨fun q => q.1, fun q => ⟨q, fun z => ?_⟩⟩
        rw [z] at q
        exact b (mG_tb.mp q).2.1)
theorem mG_0 (x : Nat) : mG x 0 = g7 x := tb_ext (fun i => by
  rw [mG_tb, g7_tb]
  exact ⟨fun q => ⟨q.1, q.2.1, q.2.2.elim (fun z => absurd z (Nat.not_lt_zero i)) id⟩, fun q => ⟨q.1, q.2.1, Or.inr q.2.2⟩⟩)
theorem mG_10 {x : Nat} (hx : x < 2 ^ 10) : mG x 10 = x := tb_ext (fun i => by
  rw [mG_tb]
  exact ⟨fun q => q.2.1, fun q => ⟨tb_lt hx q, q, Or.inl (tb_lt hx q)⟩⟩)
/-- the best of all that was tried -/
def ivM (D : ZD) (G : Nat) (s : Zs) (x set : Nat) : Prop := ∃ d, gdD D G d ∧ bsM D s d ∧ ∀ e, gdD D G e → ((∀ f, f < cnt D 1 → e f = 4) ∨ ∃ x' set', set' < 2 ^ cnt D 1 ∧ belD D x' set' e ∧ (x' < x ∨ (x' = x ∧ set' < set))) → vlD D G e ≤ vlD D G d
theorem bel_ex (D : ZD) (e : Nat → Nat) : ∃ x' set', x' < 2 ^ cnt D 4 ∧ set' < 2 ^ cnt D 1 ∧ belD D x' set' e := by
  refine ⟨bset (fun h => dcP (∃ f, f < cnt D 1 ∧ e f = h)) (cnt D 4), bset (fun f => decide (e f ≠ 4)) (cnt D 1), bset_lt _ _, bset_lt _ _, fun h hh => ?_, fun f hf => ?_⟩
  · rw [bset_tb, decide_eq_true hh, Bool.true_and]
    exact dcP_iff
  · rw [bset_tb, decide_eq_true hf, Bool.true_and]
    exact decide_eq_true_iff
theorem orders_m (hm : mT s D) (hw : wD D) (hX : wX D) (hS : mSt s 216 0 D S) {x : Int} (hx : x < 2147483648) : zC N 1486 [(((172 : Nat) : Int), 0), (x, 0)] s (fun r => ∃ v, r.1 = [(v, 0)] ∧ odA D S x v) := by
  have h10 : cnt D 1 ≤ 10 := hw.1 1 (by omega)
  have h4 : cnt D 4 ≤ 4 := hw.1 4 (by omega)
  have b3 : 2 ^ cnt D 1 ≤ 2 ^ 10 := Nat.pow_le_pow_right (by decide) h10
  have b4 : (2 : Nat) ^ 10 = 1024 := by decide
  have b5 : 1 ≤ 2 ^ cnt D 1 := Nat.one_le_two_pow
  have b6 : 2 ^ cnt D 4 ≤ 2 ^ 4 := Nat.pow_le_pow_right (by decide) h4
  have b7 : (2 : Nat) ^ 4 = 16 := by decide
  have e0 : s 216 0 = ((sTh S : Nat) : Int) := hS.1
  have c1 : s 174 1 = ((cnt D 1 : Nat) : Int) := hm.1 1 (by omega)
  have gl : ndf (2 ^ cnt D 1 - 1) (sTh S) < 2 ^ cnt D 1 := by
    have := ndf_le (a := 2 ^ cnt D 1 - 1) (b := sTh S) (by omega)
    omega
  have n7 : odN D S ≤ 7 := od_7 hw
  have Gx : ∀ i, (ordG D S).testBit i = true → i < cnt D 1 := fun i q => tb_lt gl (g7_tb.mp q).2.1
  have n10 : cnB (fun i => (ordG D S).testBit i) 10 = odN D S := by
    have e := cnB_st (p := fun i => (ordG D S).testBit i) (n := cnt D 1) (10 - cnt D 1) (fun i hi => Bool.eq_false_iff.mpr (fun q => by
      have := Gx i q
      omega))
    rw [show cnt D 1 + (10 - cnt D 1) = 10 from by omega] at e
    exact e
  have Gl : ordG D S < 1024 := g7_lt _
  refine c_X11_orders (b_X11_orders_0 _ _ _ _ s ?_)
  rw [c1, al_e hw, e0, zandn (by omega)]
  have hm0 : mT (zu s 172 0 0) D := mT_e (fun c j a b => zu_n (by omega)) hm
  generalize zu s 172 0 0 = s0 at hm0 ⊢
  -- all packings are tried
  have row : ∀ (M f : Nat) (s1 : Zs) (d : Nat → Nat), bsM D s1 d → odN D S + 1 ≥ x → 2 ≤ x → gdD D (ordG D S) d → (∀ e, gdD D (ordG D S) e → vlD D (ordG D S) e ≤ vlD D (ordG D S) d) → ((cnB (fun i => (ordG D S).testBit i) f : Nat) : Int) ≤ x - 2 → zT (zE 1486) (Pt PX11_orders) M (204, [((172 : Nat) : Int), x, ((ordG D S : Nat) : Int), x - 2 - ((cnB (fun i => (ordG D S).testBit i) f : Nat) : Int), (f : Int)], [], s1) (fun r => ∃ v, r.1 = [(v, 0)] ∧ odA D S x v) := by
    intro M
    induction M using Nat.strongRecOn with
    | ind M ih =>
      intro f s1 d bs hxn hx2 gd top hf
      have fF : f < cnt D 1 := Classical.byContradiction fun c => by
        have := cnB_mn (p := fun i => (ordG D S).testBit i) (show cnt D 1 ≤ f by omega)
        have e : cnB (fun i => (ordG D S).testBit i) (cnt D 1) = odN D S := rfl
        omega
      have d4 := okd_4 gd.1 h4 f fF
      have ans : ∀ v, (ordG D S).testBit f = true → ((cnB (fun i => (ordG D S).testBit i) f : Nat) : Int) = x - 2 → v = rwd (d f) → odA D S x v := fun v q1 q2 q3 => ⟨fun q => by omega, fun _ _ => ⟨d, gd, top, fun q => by omega, fun q => by omega, fun _ => ⟨f, fF, q1, q2, q3⟩⟩⟩
      have r5 := bs.2.2 f fF
      refine b_X11_orders_204 _ _ _ _ s1 (fun g m hm' => ?_) (fun g g2 g3 => ?_) (fun g g2 g3 => ?_) (fun g g2 m hm' => ?_)
      · have q : ¬ (ordG D S).testBit f = true := (zbit0 (by omega) (by omega)).mp g
        have e := cnB_n (p := fun i => (ordG D S).testBit i) (k := f) q
        rw [g, Int.sub_zero, w32_id (by omega) (by omega), w32_k (by omega), ← e]
        exact ih m hm' (f + 1) s1 d bs hxn hx2 gd top (by omega)
      · have q : (ordG D S).testBit f = true := Classical.byContradiction fun c => g ((zbit0 (by omega) (by omega)).mpr c)
        rw [Int.toNat_natCast, r5] at g3
        refine ⟨_, rfl, ans _ q (by omega) ?_⟩
        rw [Int.toNat_natCast, r5]
        by_cases z : d f = 4
        · exact absurd (show rw9 (d f) = 9 from if_pos z) g3
        · show (if d f = 4 then (9 : Int) else ((d f : Nat) : Int)) = (if d f = 4 then (-1 : Int) else ((d f : Nat) : Int))
          rw [if_neg z, if_neg z]
      · have q : (ordG D S).testBit f = true := Classical.byContradiction fun c => g ((zbit0 (by omega) (by omega)).mpr c)
        rw [Int.toNat_natCast, r5] at g3
        refine ⟨_, rfl, ans _ q (by omega) ?_⟩
        unfold rw9 at g3
        unfold rwd
        by_cases z : d f = 4
        · rw [if_pos z]
        · rw [if_neg z] at g3
          omega
      · have q : (ordG D S).testBit f = true := Classical.byContradiction fun c => g ((zbit0 (by omega) (by omega)).mpr c)
        have e := cnB_y (p := fun i => (ordG D S).testBit i) (k := f) q
        have one : zand (zshr ((ordG D S : Nat) : Int) (f : Int)) 1 = 1 := (zbit1 (by omega) (by omega)).mpr q
        have ew : w32 (x - 2 - ((cnB (fun i => (ordG D S).testBit i) f : Nat) : Int) - 1) = x - 2 - ((cnB (fun i => (ordG D S).testBit i) (f + 1) : Nat) : Int) := by
          rw [w32_id (by omega) (by omega), e]
          omega
        rw [one, ew, w32_k (by omega)]
        exact ih m hm' (f + 1) s1 d bs hxn hx2 gd top (by omega)
  have tries : ∀ (M h : Nat) (s1 : Zs) (x4 : Int), 0 ≤ x → odN D S + 1 ≥ x → 1 ≤ h → h ≤ 2 ^ cnt D 4 → mT s1 D → ivM D (ordG D S) s1 h 0 → zT (zE 1486) (Pt PX11_orders) M (100, [((172 : Nat) : Int), x, ((ordG D S : Nat) : Int), (h : Int), x4], [], s1) (fun r => ∃ v, r.1 = [(v, 0)] ∧ odA D S x v) := by
    intro M
    induction M using Nat.strongRecOn with
    | ind M ih =>
      intro h s1 x4 hx0 hxn h1 hH hm1 iv
      have c4 : s1 174 4 = ((cnt D 4 : Nat) : Int) := hm1.1 4 (by omega)
      have zH : zshl 1 (s1 174 4) = ((2 ^ cnt D 4 : Nat) : Int) := by
        rw [c4]
        exact zshl_1 _ (by omega)
      have fin : h = 2 ^ cnt D 4 → ∃ d, gdD D (ordG D S) d ∧ bsM D s1 d ∧ ∀ e, gdD D (ordG D S) e → vlD D (ordG D S) e ≤ vlD D (ordG D S) d := fun eh => by
        obtain ⟨d, i1, i2, i3⟩ := iv
        refine ⟨d, i1, i2, fun e ge => ?_⟩
        obtain ⟨x', set', k1, k2, k3⟩ := bel_ex D e
        exact i3 e ge (Or.inr ⟨x', set', k2, k3, Or.inl (by omega)⟩)
      refine b_X11_orders_100 _ _ _ _ s1 (fun g g2 => ?_) (fun g g2 g3 => ?_) (fun g g2 g3 => ?_) (fun g m hm' => ?_)
      all_goals rw [zH] at g
      · obtain ⟨d, i1, i2, i3⟩ := fin (by omega)
        have ew : w32 (x - 2) = x - 2 - ((cnB (fun i => (ordG D S).testBit i) 0 : Nat) : Int) := by
          rw [w32_id (by omega) (by omega)]
          exact (Int.sub_zero _).symm
        rw [ew]
        exact row M 0 s1 d i2 hxn g2 i1 i3 (show (0 : Int) ≤ x - 2 by omega)
      · obtain ⟨d, i1, i2, i3⟩ := fin (by omega)
        exact ⟨_, rfl, fun q => by omega, fun _ _ => ⟨d, i1, i3, fun q => by omega, fun _ => i2.2.1, fun q => by omega⟩⟩
      · obtain ⟨d, i1, i2, i3⟩ := fin (by omega)
        exact ⟨_, rfl, fun q => by omega, fun _ _ => ⟨d, i1, i3, fun _ => i2.1, fun q => by omega, fun q => by omega⟩⟩
      have hh : h < 2 ^ cnt D 4 := by omega
      refine zC_q (laysServed_m hm1 hw hX (x := h) (by omega)) (fun r hr => ?_)
      obtain ⟨r1, s2⟩ := r
      obtain ⟨er, f2, sv, n, hs, en, es, ec⟩ := hr
      have er : r1 = [] := er
      subst er
      have f2 : ∀ c j, c ≠ 222 → c ≠ 223 → ¬ (c = 172 ∧ j = 64) → s2 c j = s1 c j := f2
      have en : s2 172 64 = ((n : Nat) : Int) := en
      have es : ∀ k, k < n → s2 223 k = ((sv k : Nat) : Int) := es
      have ec : ∀ y, y < 2 ^ cnt D 1 → s2 222 (1024 * n + y) = cgB D sv n y := ec
      have hm2 : mT s2 D := mT_e (fun c j a b => f2 c j (by omega) (by omega) (by omega)) hm1
      have sets : ∀ (M1 set : Nat) (s3 : Zs), M1 ≤ m → 1 ≤ set → set ≤ 2 ^ cnt D 1 → mT s3 D → s3 172 64 = ((n : Nat) : Int) → (∀ k, k < n → s3 223 k = ((sv k : Nat) : Int)) → (∀ y, y < 2 ^ cnt D 1 → s3 222 (1024 * n + y) = cgB D sv n y) → ivM D (ordG D S) s3 h set → zT (zE 1486) (Pt PX11_orders) M1 (120, [((172 : Nat) : Int), x, ((ordG D S : Nat) : Int), (h : Int), (set : Int)], [], s3) (fun r => ∃ v, r.1 = [(v, 0)] ∧ odA D S x v) := by
        intro M1
        induction M1 using Nat.strongRecOn with
        | ind M1 ih1 =>
          intro set s3 hM1 k1 k2 hm3 kn ks kc iv3
          have d1 : s3 174 1 = ((cnt D 1 : Nat) : Int) := hm3.1 1 (by omega)
          have n4 := hs.1
          have zn : zand (set : Int) (zxor ((ordG D S : Nat) : Int) (-1)) = ((ndf set (ordG D S) : Nat) : Int) := zandn (by omega)
          -- none with this set
          have on : ∀ m2, m2 < M1 → set < 2 ^ cnt D 1 → (∀ e, gdD D (ordG D S) e → ¬ belD D h set e) → zT (zE 1486) (Pt PX11_orders) m2 (120, [((172 : Nat) : Int), x, ((ordG D S : Nat) : Int), (h : Int), w32 ((set : Int) + 1)], [], s3) (fun r => ∃ v, r.1 = [(v, 0)] ∧ odA D S x v) := fun m2 hm2 hl no => by
            rw [w32_k (by omega)]
            refine ih1 m2 hm2 (set + 1) s3 (by omega) (by omega) (by omega) hm3 kn ks kc ?_
            obtain ⟨d, i1, i2, i3⟩ := iv3
            refine ⟨d, i1, i2, fun e ge he => ?_⟩
            rcases he with he | ⟨x', set', q1, q2, q3⟩
            · exact i3 e ge (Or.inl he)
            · by_cases z : x' = h ∧ set' = set
              · rw [z.1, z.2] at q2
                exact absurd q2 (no e ge)
              · exact i3 e ge (Or.inr ⟨x', set', q1, q2, by omega⟩)
          have inG : ∀ e, gdD D (ordG D S) e → belD D h set e → set < 2 ^ cnt D 1 → ∀ i, set.testBit i = true → (ordG D S).testBit i = true := fun e ge be hl i q => by
            have hi := tb_lt hl q
            have z := (be.2 i hi).mp q
            rcases ge.1 i hi with y | y
            · exact absurd y z
            · exact y.2
          have sub0 : (∀ i, set.testBit i = true → (ordG D S).testBit i = true) → set < 2 ^ cnt D 1 → ndf set (ordG D S) = 0 := fun q hl => by
            apply Nat.eq_of_testBit_eq
            intro i
            rw [ndf_tb (by omega) (by omega), Nat.zero_testBit]
            cases ht : set.testBit i with
            | false => rfl
            | true => simp [q i ht]
          refine b_X11_orders_120 _ _ _ _ s3 (fun g2 m2 hm2 => ?_) (fun g2 g3 m2 hm2 => ?_) (fun g2 g3 g4 m2 hm2 => ?_) (fun g2 g3 g4 m2 hm2 => ?_)
          all_goals rw [d1, al_e hw] at g2
          · have es : set = 2 ^ cnt D 1 := by omega
            rw [w32_k (by omega)]
            refine ih m2 (by omega) (h + 1) s3 _ hx0 hxn (by omega) (by omega) hm3 ?_
            obtain ⟨d, i1, i2, i3⟩ := iv3
            refine ⟨d, i1, i2, fun e ge he => ?_⟩
            rcases he with he | ⟨x', set', q1, q2, q3⟩
            · exact i3 e ge (Or.inl he)
            · exact i3 e ge (Or.inr ⟨x', set', q1, q2, by omega⟩)
          all_goals
            have hl : set < 2 ^ cnt D 1 := by omega
            rw [zn] at g3
          · exact on m2 hm2 hl (fun e ge be => g3 (congrArg (fun n : Nat => (n : Int)) (sub0 (inG e ge be hl) hl)))
          all_goals
            have ix : (w32 ((w32 (1024 * (s3 172 64))) + (set : Int))).toNat = 1024 * n + set := by
              rw [kn, w32_id (z := 1024 * ((n : Nat) : Int)) (by omega) (by omega), w32_id (by omega) (by omega)]
              omega
            rw [ix, kc set hl] at g4
          · have nc : ¬ CGp D sv n set := fun q => by
              rw [cgB_y q] at g4
              exact absurd g4 (by decide)
            refine on m2 hm2 hl (fun e ge be => nc ?_)
            refine d_CG hs (fun k hk => (od_hh hw hX k hk).1) h10 n set e (Nat.le_refl _) hl (fun f q => ?_) (fun j hj => ?_)
            · have hf := tb_lt hl q
              have e4 := (be.2 f hf).mp q
              rcases ge.1 f hf with y | y
              · exact absurd y e4
              · obtain ⟨k, q1, q2⟩ := hs.2.2.2 (e f) y.1 ((be.1 _ y.1).mpr ⟨f, hf, rfl⟩)
                exact ⟨k, q1, q2.symm⟩
            · have z := hs.2.1 j hj
              obtain ⟨f, f1, f3⟩ := (be.1 _ z.1).mp z.2
              have q := ge.2 f f1 (by omega)
              rw [f3] at q
              have eq : sU (fun f => if set.testBit f = true then (if e f = sv j then colD D 12 f else 0) else 0) (cnt D 1) = gvd (cnt D 1) (colD D 12) e (sv j) := sU_e _ (fun i hi => by
                show (if set.testBit i = true then (if e i = sv j then colD D 12 i else 0) else 0) = (if e i = sv j then colD D 12 i else 0)
                by_cases y : set.testBit i = true
                · rw [if_pos y]
                · have y4 : e i = 4 := Classical.byContradiction fun c => y ((be.2 i hi).mpr c)
                  have y5 : ¬ e i = sv j := by omega
                  rw [if_neg y, if_neg y5])
              rw [eq]
              exact q
          · have yc : CGp D sv n set := Classical.byContradiction fun c => g4 (cgB_n c)
            have nz : ndf set (ordG D S) = 0 := by omega
            have hG : ∀ i, set.testBit i = true → (ordG D S).testBit i = true := fun i q => Classical.byContradiction fun c => by
              have t : (ndf set (ordG D S)).testBit i = true := by
                rw [ndf_tb (by omega) (by omega)]
                simp [q, c]
              rw [nz, Nat.zero_testBit] at t
              cases t
            obtain ⟨d, i1, i2, i3⟩ := iv3
            refine zC_q (seeks_m hm3 hw hX hs hh n7 hl hG kn ks yc i1 i2) (fun r hr => ?_)
            obtain ⟨r1, s4⟩ := r
            obtain ⟨er, f4, d', j1, j2, j3⟩ := hr
            have er : r1 = [] := er
            subst er
            have f4 : ∀ c j, c ≠ 224 → c ≠ 225 → c ≠ 226 → ¬ (c = 172 ∧ 68 ≤ j ∧ j ≤ 70) → s4 c j = s3 c j := f4
            refine b_X11_orders_164 _ _ _ _ s4 (fun m3 hm3' => ?_)
            rw [w32_k (by omega)]
            refine ih1 m3 (by omega) (set + 1) s4 (by omega) (by omega) (by omega) (mT_e (fun c j a b => f4 c j (by omega) (by omega) (by omega) (by omega)) hm3) ((f4 _ _ (by omega) (by omega) (by omega) (by omega)).trans kn) (fun k hk => (f4 _ _ (by omega) (by omega) (by omega) (by omega)).trans (ks k hk)) (fun y hy => (f4 _ _ (by omega) (by omega) (by omega) (by omega)).trans (kc y hy)) ⟨d', j1, j2, fun e ge he => ?_⟩
            have up := j3 d (Or.inl rfl)
            rcases he with he | ⟨x', set', q1, q2, q3⟩
            · exact Int.le_trans (i3 e ge (Or.inl he)) up
            · by_cases z : x' = h ∧ set' = set
              · rw [z.1, z.2] at q2
                exact j3 e (Or.inr ⟨ge, q2⟩)
              · exact Int.le_trans (i3 e ge (Or.inr ⟨x', set', q1, q2, by omega⟩)) up
      refine b_X11_orders_117 _ _ _ _ s2 (sets m 1 s2 (Nat.le_refl _) (Nat.le_refl _) b5 hm2 en es ec ?_)
      obtain ⟨d, i1, i2, i3⟩ := iv
      refine ⟨d, i1, ⟨(f2 _ _ (by decide) (by decide) (by decide)).trans i2.1, (f2 _ _ (by decide) (by decide) (by decide)).trans i2.2.1, fun f hf => (f2 _ _ (by decide) (by decide) (by omega)).trans (i2.2.2 f hf)⟩, fun e ge he => ?_⟩
      rcases he with he | ⟨x', set', q1, q2, q3⟩
      · exact i3 e ge (Or.inl he)
      · by_cases z : x' < h
        · exact i3 e ge (Or.inr ⟨x', set', q1, q2, Or.inl z⟩)
        · have s0 : set' = 0 := by omega
          refine i3 e ge (Or.inl (fun f hf => Classical.byContradiction fun c => ?_))
          have := (q2.2 f hf).mpr c
          rw [s0, Nat.zero_testBit] at this
          cases this
  have fresh : ∀ (M f : Nat) (s1 : Zs) (x4 : Int), 0 ≤ x → odN D S + 1 ≥ x → f ≤ 10 → mT s1 D → s1 172 69 = 0 → s1 172 70 = 0 → (∀ i, i < f → s1 225 i = 9) → zT (zE 1486) (Pt PX11_orders) M (78, [((172 : Nat) : Int), x, ((ordG D S : Nat) : Int), (f : Int), x4], [], s1) (fun r => ∃ v, r.1 = [(v, 0)] ∧ odA D S x v) := by
    intro M
    induction M using Nat.strongRecOn with
    | ind M ih =>
      intro f s1 x4 hx0 hxn hf hm1 z1 z2 h9
      refine b_X11_orders_78 _ _ _ _ s1 (fun g => ?_) (fun g m hm' => ?_)
      · refine tries M 1 s1 x4 hx0 hxn (Nat.le_refl _) Nat.one_le_two_pow hm1 ?_
        have nn : ∀ e : Nat → Nat, (∀ f, f < cnt D 1 → e f = 4) → (∀ k, k < cnt D 4 → gvd (cnt D 1) (colD D 12) e k = 0) ∧ rsD D e = 0 := fun e he => ⟨fun k hk => sU_z _ (fun f hf => if_neg (by rw [he f hf]; omega)), sU_z _ (fun f hf => if_pos (he f hf))⟩
        have py0 : ∀ e : Nat → Nat, (∀ f, f < cnt D 1 → e f = 4) → pyD D e = 0 := fun e he => sU_z _ (fun k hk => if_neg (by
          rw [(nn e he).1 k hk]
          have := (od_hh hw hX k hk).1
          omega))
        refine ⟨fun _ => 4, ⟨fun _ _ => Or.inl rfl, fun f hf q => absurd rfl q⟩, ⟨z1.trans (py0 _ (fun _ _ => rfl)).symm, z2.trans (nn _ (fun _ _ => rfl)).2.symm, fun i hi => h9 i (by omega)⟩, fun e ge he => ?_⟩
        have all4 : ∀ f, f < cnt D 1 → e f = 4 := by
          rcases he with he | ⟨x', set', q1, q2, q3⟩
          · exact he
          · intro f hf
            have x0 : x' = 0 := by omega
            rcases ge.1 f hf with z | z
            · exact z
            · have := (q2.1 _ z.1).mpr ⟨f, hf, rfl⟩
              rw [x0, Nat.zero_testBit] at this
              cases this
        have ew : wtd (ordG D S) e (cnt D 1) = wtd (ordG D S) (fun _ => 4) (cnt D 1) := wtd_e _ (fun i hi _ => all4 i hi)
        have v : ∀ e, vlD D (ordG D S) e = 67108864 * pyD D e - 131072 * rsD D e - wtd (ordG D S) e (cnt D 1) := fun _ => rfl
        rw [v, v, py0 e all4, (nn e all4).2, py0 _ (fun _ _ => rfl), (nn _ (fun _ _ => rfl)).2, ew]
        exact Int.le_refl _
      · rw [w32_k (by omega), Int.toNat_natCast]
        refine ih m hm' (f + 1) _ x4 hx0 hxn (by omega) (mT_e (fun c j a b => zu_n (by omega)) hm1) ?_ ?_ (fun i hi => ?_)
        · rw [zu_n (by omega)]
          exact z1
        · rw [zu_n (by omega)]
          exact z2
        · by_cases q : i = f
          · rw [q, zu_eq]
          · rw [zu_n (by omega)]
            exact h9 i (by omega)
  have cut : ∀ (M f : Nat) (x4 : Int), f ≤ 10 → zT (zE 1486) (Pt PX11_orders) M (22, [((172 : Nat) : Int), x, ((mG (ndf (2 ^ cnt D 1 - 1) (sTh S)) f : Nat) : Int), (f : Int) - 1, x4], [], s0) (fun r => ∃ v, r.1 = [(v, 0)] ∧ odA D S x v) := by
    intro M
    induction M using Nat.strongRecOn with
    | ind M ih =>
      intro f x4 hf
      have ml := mG_lt (ndf (2 ^ cnt D 1 - 1) (sTh S)) f
      refine b_X11_orders_22 _ _ _ _ s0 (fun g m hm' => ?_) (fun g m hm' => ?_)
      · have f0 : f = 0 := by omega
        subst f0
        have eG : mG (ndf (2 ^ cnt D 1 - 1) (sTh S)) 0 = ordG D S := mG_0 _
        rw [eG]
        refine zC_q (bits_m Gl) (fun r hr => ?_)
        subst hr
        have eb : bcn (ordG D S) = odN D S := (bcn_cnB _).trans n10
        rw [eb]
        have bad : (x < 0 ∨ ((odN D S : Nat) : Int) + 1 < x) → ∃ v, (([(-2, 0)], s0) : Zr).1 = [(v, 0)] ∧ odA D S x v := fun q => ⟨-2, rfl, fun _ => rfl, fun q1 q2 => by omega⟩
        have ew : w32 (1 + ((odN D S : Nat) : Int)) = ((odN D S : Nat) : Int) + 1 := by
          rw [w32_id (by omega) (by omega)]
          omega
        refine b_X11_orders_56 _ _ _ _ _ _ s0 (fun g2 => bad (Or.inl g2)) (fun g2 g3 => bad (Or.inr (by rw [ew] at g3; exact g3))) (fun g2 g3 => ?_)
        rw [ew] at g3
        refine fresh m 0 _ _ g2 (by omega) (Nat.zero_le _) (mT_e (fun c j a b => by rw [zu_n (by omega), zu_n (by omega)]) hm0) ?_ (zu_eq _ _ _ _) (fun i hi => absurd hi (Nat.not_lt_zero i))
        rw [zu_n (by omega)]
        exact zu_eq _ _ _ _
      · obtain ⟨f', rfl⟩ : ∃ f', f = f' + 1 := ⟨f - 1, by omega⟩
        have st := mG_s (x := ndf (2 ^ cnt D 1 - 1) (sTh S)) (f := f') (by omega)
        have e1 : ((f' + 1 : Nat) : Int) - 1 = (f' : Int) := by omega
        rw [e1]
        refine zC_q (bits_m ml) (fun r hr => ?_)
        subst hr
        have ew : w32 ((f' : Int) + (-1)) = (f' : Int) - 1 := by
          rw [w32_id (by omega) (by omega)]
          omega
        refine b_X11_orders_30 _ _ _ _ _ s0 (fun g2 m2 hm2 => ?_) (fun g2 m2 hm2 => ?_)
        · rw [ew, ← st.1 (by omega)]
          exact ih m2 (by omega) f' _ (by omega)
        · rw [ew, zshl_1 f' (by omega), zandn (by omega), st.2 (by omega)]
          exact ih m2 (by omega) f' _ (by omega)
  have e9 : (9 : Int) = ((10 : Nat) : Int) - 1 := by decide
  have em : mG (ndf (2 ^ cnt D 1 - 1) (sTh S)) 10 = ndf (2 ^ cnt D 1 - 1) (sTh S) := mG_10 (by omega)
  have z := cut N 10 0 (Nat.le_refl _)
  rw [em, ← e9] at z
  exact z
end Zom
