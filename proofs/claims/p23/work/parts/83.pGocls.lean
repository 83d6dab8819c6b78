/-! orders of the class -/
theorem zxor_nat {x y : Nat} (hx : x < 2147483648) (hy : y < 2147483648) : zxor (x : Int) (y : Int) = ((x ^^^ y : Nat) : Int) := by
  show (BitVec.ofInt 32 (x : Int) ^^^ BitVec.ofInt 32 (y : Int)).toInt = _
  rw [bv_nat32, bv_nat32]
  have e : (BitVec.ofNat 32 x ^^^ BitVec.ofNat 32 y).toNat = x ^^^ y := by
    rw [BitVec.toNat_xor, BitVec.toNat_ofNat, BitVec.toNat_ofNat, Nat.mod_eq_of_lt (by omega), Nat.mod_eq_of_lt (by omega)]
  have hl : x ^^^ y < 2 ^ 31 := Nat.xor_lt_two_pow (by omega) (by omega)
  rw [BitVec.toInt_eq_toNat_of_lt (by rw [e]; omega), e]
theorem zremL_q {x d : Int} (h0 : 0 ≤ x) (h1 : x ≤ 9223372036854775807) (hd : 0 < d) (hd1 : d ≤ 9223372036854775807) : zremL x d = x % d := by
  unfold zremL
  rw [Int64.toInt_sub, Int64.toInt_mul, Int64.toInt_div, Int64.toInt_ofInt_of_le (by omega) (by omega), Int64.toInt_ofInt_of_le (by omega) (by omega), Int.tdiv_eq_ediv_of_nonneg h0]
  have a : 0 ≤ x / d := Int.ediv_nonneg h0 (by omega)
  have b : x / d ≤ x := Int.ediv_le_self d h0
  have e : x % d = x - d * (x / d) := Int.emod_def x d
  have c1 : 0 ≤ x % d := Int.emod_nonneg x (by omega)
  have c2 : x % d < d := Int.emod_lt_of_pos x hd
  have e1 : (x / d).bmod (2 ^ 64) = x / d := w64_id (by omega) (by omega)
  rw [e1, Int.mul_comm (x / d) d]
  have e2 : (d * (x / d)).bmod (2 ^ 64) = d * (x / d) := w64_id (by omega) (by omega)
  rw [e2, ← e]
  exact w64_id (by omega) (by omega)
theorem w32_k {k : Nat} (h : k < 1000000) : w32 ((k : Int) + 1) = ((k + 1 : Nat) : Int) := by
  rw [w32_id (by omega) (by omega)]
  omega
/-- the first seven of a set -/
def g7 (x : Nat) : Nat := bset (fun f => x.testBit f && decide (cnB (fun i => x.testBit i) f < 7)) 10
theorem g7_tb {x f : Nat} : (g7 x).testBit f = true ↔ (f < 10 ∧ x.testBit f = true ∧ cnB (fun i => x.testBit i) f < 7) := by
  unfold g7
  rw [bset_tb]
  simp only [Bool.and_eq_true, decide_eq_true_eq]
theorem g7_cn (x : Nat) : ∀ n, n ≤ 10 → cnB (fun i => (g7 x).testBit i) n = if cnB (fun i => x.testBit i) n < 7 then cnB (fun i => x.testBit i) n else 7
  | 0, _ => (if_pos (show (0 : Nat) < 7 by decide)).symm
  | n + 1, hn => by
    have ih := g7_cn x n (by omega)
    by_cases q : x.testBit n = true
    · rw [cnB_y (p := fun i => x.testBit i) q]
      by_cases l : cnB (fun i => x.testBit i) n < 7
      · rw [if_pos l] at ih
        rw [cnB_y (p := fun i => (g7 x).testBit i) (g7_tb.mpr ⟨by omega, q, l⟩), ih]
        split <;> omega
      · rw [if_neg l] at ih
        rw [cnB_n (p := fun i => (g7 x).testBit i) (fun z => l (g7_tb.mp z).2.2), ih, if_neg (by omega)]
    · rw [cnB_n (p := fun i => x.testBit i) q, cnB_n (p := fun i => (g7 x).testBit i) (fun z => q (g7_tb.mp z).2.1)]
      exact ih
theorem g7_le {x n : Nat} (h : n ≤ 10) : cnB (fun i => (g7 x).testBit i) n ≤ 7 := by
  rw [g7_cn x n h]
  split <;> omega
theorem g7_in {x f : Nat} (hf : f < 10) (h : cnB (fun i => (g7 x).testBit i) f < 7) : x.testBit f = true ↔ (g7 x).testBit f = true := by
  rw [g7_cn x f (by omega)] at h
  refine ⟨fun q => g7_tb.mpr ⟨hf, q, ?_⟩, fun q => (g7_tb.mp q).2.1⟩
  split at h
  · assumption
  · omega
theorem g7_no {x f i : Nat} (hf : f ≤ 10) (h : 7 ≤ cnB (fun i => (g7 x).testBit i) f) (hi : f ≤ i) : ¬ (g7 x).testBit i = true := fun q => by
  have h1 := cnB_mn (p := fun i => x.testBit i) hi
  have q2 := (g7_tb.mp q).2.2
  rw [g7_cn x f hf] at h
  split at h <;> omega
section Zor
variable {N t : Nat} {s : Zs} {D : ZD} {S : ZS}
theorem choose_c (ht : t = 7 ∨ t = 43) (hd : cDn s t D) (hw : wD D) {x : Nat} (hx : x < 2 ^ cnt D 1) : zC N 385 [(((165 : Nat) : Int), 0), (((t : Nat) : Int), 0), ((x : Int), 0)] s (fun r => r.1 = [] ∧ (∀ c j, ¬ (c = 165 ∧ j = 0) → c ≠ 166 → r.2 c j = s c j) ∧ r.2 165 0 = ((cnB (fun i => (g7 x).testBit i) (cnt D 1) : Nat) : Int) ∧ ∀ f, f < cnt D 1 → (g7 x).testBit f = true → r.2 166 (cnB (fun i => (g7 x).testBit i) f) = ((f : Nat) : Int)) := by
  have hc : s (t + 1) 1 = ((cnt D 1 : Nat) : Int) := hd.1 1 (by omega)
  have h10 : cnt D 1 ≤ 10 := hw.1 1 (by omega)
  have b3 : 2 ^ cnt D 1 ≤ 2 ^ 10 := Nat.pow_le_pow_right (by decide) h10
  have b4 : (2 : Nat) ^ 10 = 1024 := by decide
  have loop : ∀ (M f : Nat) (s1 : Zs), f ≤ cnt D 1 → (∀ c j, ¬ (c = 165 ∧ j = 0) → c ≠ 166 → s1 c j = s c j) → s1 165 0 = ((cnB (fun i => (g7 x).testBit i) f : Nat) : Int) → (∀ i, i < f → (g7 x).testBit i = true → s1 166 (cnB (fun i => (g7 x).testBit i) i) = ((i : Nat) : Int)) → zT (zE 385) (Pt PX3_choose) M (7, [((165 : Nat) : Int), ((t : Nat) : Int), (x : Int), (f : Int)], [], s1) (fun r => r.1 = [] ∧ (∀ c j, ¬ (c = 165 ∧ j = 0) → c ≠ 166 → r.2 c j = s c j) ∧ r.2 165 0 = ((cnB (fun i => (g7 x).testBit i) (cnt D 1) : Nat) : Int) ∧ ∀ f, f < cnt D 1 → (g7 x).testBit f = true → r.2 166 (cnB (fun i => (g7 x).testBit i) f) = ((f : Nat) : Int)) := by
    intro M
    induction M using Nat.strongRecOn with
    | ind M ih =>
      intro f s1 hf f1 e1 e2
      have hc1 : s1 (t + 1) 1 = ((cnt D 1 : Nat) : Int) := (f1 _ _ (by omega) (by omega)).trans hc
      have b7 := g7_le (x := x) (n := f) (by omega)
      refine b_X3_choose_7 _ _ s1 ht (fun g => ?_) (fun g g2 => ?_) (fun g g2 g3 m hm => ?_) (fun g g2 g3 m hm => ?_)
      all_goals rw [hc1] at g
      · have : f = cnt D 1 := by omega
        subst this
        exact ⟨rfl, f1, e1, e2⟩
      · rw [e1] at g2
        have no : ∀ i, f ≤ i → ¬ (g7 x).testBit i = true := fun i hi => g7_no (x := x) (f := f) (by omega) (by omega) hi
        refine ⟨rfl, f1, ?_, fun i hi q => ?_⟩
        · have e := cnB_st (p := fun i => (g7 x).testBit i) (n := f) (cnt D 1 - f) (fun i hi => Bool.eq_false_iff.mpr (no i hi))
          rw [show f + (cnt D 1 - f) = cnt D 1 from by omega] at e
          rw [e]
          exact e1
        · by_cases l : i < f
          · exact e2 i l q
          · exact absurd q (no i (by omega))
      · rw [e1] at g2
        have q : ¬ x.testBit f = true := fun q => g3 ((zbit1 (by omega) (by omega)).mpr q)
        have q2 : ¬ (g7 x).testBit f = true := fun z => q (g7_tb.mp z).2.1
        rw [w32_k (by omega)]
        refine ih m hm (f + 1) s1 (by omega) f1 ?_ (fun i hi z => ?_)
        · rw [cnB_n (p := fun i => (g7 x).testBit i) q2]
          exact e1
        · by_cases l : i = f
          · rw [l] at z
            exact absurd z q2
          · exact e2 i (by omega) z
      · rw [e1] at g2
        have q : x.testBit f = true := (zbit1 (by omega) (by omega)).mp g3
        have q2 : (g7 x).testBit f = true := (g7_in (x := x) (f := f) (by omega) (by omega)).mp q
        rw [w32_k (by omega), e1, Int.toNat_natCast, w32_k (by omega)]
        refine ih m hm (f + 1) _ (by omega) (fun c j h1 h2 => ?_) ?_ (fun i hi z => ?_)
        · rw [zu_n (by omega), zu_n (by omega)]
          exact f1 c j h1 h2
        · rw [cnB_y (p := fun i => (g7 x).testBit i) q2]
          exact zu_eq _ _ _ _
        · rw [zu_n (by omega)]
          by_cases l : i = f
          · rw [l]
            exact zu_eq _ _ _ _
          · have lt := cnB_lt (p := fun i => (g7 x).testBit i) (show i < f by omega) z
            rw [zu_n (by omega)]
            exact e2 i (by omega) z
  exact c_X3_choose (b_X3_choose_0 _ _ s ht (loop N 0 _ (Nat.zero_le _) (fun c j h1 h2 => zu_n h1) (zu_eq _ _ _ _) (fun i hi _ => absurd hi (Nat.not_lt_zero i))))
/-- the rise of a bit -/
def rbD (D : ZD) (pk : Nat → Nat) (c b : Nat) : Int := colD D 12 (pk (c - 1 - b))
def fsR (c : Nat) (rb : Nat → Int) (s : Zs) (n : Nat) : Prop := ∀ m, m < n → s 167 m = sA c m rb ∧ s 168 m = sA c m w5
theorem sA_rb {c m : Nat} {rb : Nat → Int} (hc7 : c ≤ 7) (hr : ∀ b, b < c → 0 ≤ rb b ∧ rb b ≤ 40) : 0 ≤ sA c m rb ∧ sA c m rb ≤ 280 := by
  have h1 := sA_nn (c := c) (m := m) (φ := rb) (fun b hb => (hr b hb).1)
  have h2 := sA_K (c := c) (m := m) (φ := rb) (K := 40) (by decide) (fun b hb => (hr b hb).2)
  omega
theorem sA_w5 {c m : Nat} (hc7 : c ≤ 7) : 0 ≤ sA c m w5 ∧ sA c m w5 ≤ 546875 := by
  have h1 := sA_nn (c := c) (m := m) (φ := w5) (fun b hb => by have := (w5_bd (b := b) (by omega)).1; omega)
  have h2 := sA_K (c := c) (m := m) (φ := w5) (K := 78125) (by decide) (fun b hb => (w5_bd (b := b) (by omega)).2)
  omega
theorem fillSums_c {c : Nat} {pk : Nat → Nat} (ht : t = 7 ∨ t = 43) (hd : cDn s t D) (hw : wD D) (hX : wX D) (hc5 : s 165 0 = (c : Int)) (hc7 : c ≤ 7) (hpk : ∀ i, i < c → s 166 i = ((pk i : Nat) : Int) ∧ pk i < cnt D 1) (z7 : s 167 0 = 0) (z8 : s 168 0 = 0) : zC N 386 [(((165 : Nat) : Int), 0), (((t : Nat) : Int), 0)] s (fun r => r.1 = [] ∧ (∀ cc j, cc ≠ 167 → cc ≠ 168 → r.2 cc j = s cc j) ∧ fsR c (rbD D pk c) r.2 (2 ^ c)) := by
  have h10 : cnt D 1 ≤ 10 := hw.1 1 (by omega)
  have hr : ∀ b, b < c → 0 ≤ rbD D pk c b ∧ rbD D pk c b ≤ 40 := fun b hb => by
    have := rise_bd hw hX (hpk (c - 1 - b) (by omega)).2
    unfold rbD
    omega
  have loop : ∀ (M b : Nat) (s1 : Zs) (x4 x5 x6 : Int), b ≤ c → (∀ cc j, cc ≠ 167 → cc ≠ 168 → s1 cc j = s cc j) → fsR c (rbD D pk c) s1 (2 ^ b) → zT (zE 386) (Pt PX3_fillSums) M (9, [((165 : Nat) : Int), ((t : Nat) : Int), w5 b, (c : Int) - 1 - (b : Int), x4, x5, x6], [], s1) (fun r => r.1 = [] ∧ (∀ cc j, cc ≠ 167 → cc ≠ 168 → r.2 cc j = s cc j) ∧ fsR c (rbD D pk c) r.2 (2 ^ c)) := by
    intro M
    induction M using Nat.strongRecOn with
    | ind M ih =>
      intro b s1 x4 x5 x6 hb f1 fs
      refine b_X3_fillSums_9 _ _ _ _ _ s1 ht (fun g => ?_) (fun g => ?_)
      · have : b = c := by omega
        subst this
        exact ⟨rfl, f1, fs⟩
      have hbc : b < c := by omega
      have ti : ((c : Int) - 1 - (b : Int)).toNat = c - 1 - b := by omega
      have e5 : s1 165 0 = (c : Int) := (f1 _ _ (by decide) (by decide)).trans hc5
      have e6 : s1 166 (c - 1 - b) = ((pk (c - 1 - b) : Nat) : Int) := (f1 _ _ (by decide) (by decide)).trans (hpk _ (by omega)).1
      have pl := (hpk (c - 1 - b) (by omega)).2
      have ew : w32 (w32 ((c : Int) - 1) - ((c : Int) - 1 - (b : Int))) = (b : Int) := by
        rw [w32_id (z := (c : Int) - 1) (by omega) (by omega), w32_id (by omega) (by omega)]
        omega
      have rr : s1 (zrho (t + 12) (pk (c - 1 - b))) 2 = rbD D pk c b := by
        rw [zrow1 ht (by omega), f1 _ _ (by omega) (by omega)]
        exact cDn_col hd hw (k := 1) (j := 2) (by omega) (by omega) (by decide) pl
      rw [ti, e6, Int.toNat_natCast, rr, e5, ew]
      have h2 : zshl 1 (b : Int) = ((2 ^ b : Nat) : Int) := zshl_1 b (by omega)
      have p2 : 1 ≤ 2 ^ b := Nat.one_le_two_pow
      have p7 : 2 ^ b ≤ 2 ^ 7 := Nat.pow_le_pow_right (by decide) (by omega)
      have p7' : (2 : Nat) ^ 7 = 128 := by decide
      have b5 := w5_bd (b := b) (by omega)
      have inner : ∀ (M1 m : Nat) (s2 : Zs), M1 ≤ M → m ≤ 2 ^ b → (∀ cc j, cc ≠ 167 → cc ≠ 168 → s2 cc j = s cc j) → fsR c (rbD D pk c) s2 (2 ^ b + m) → zT (zE 386) (Pt PX3_fillSums) M1 (43, [((165 : Nat) : Int), ((t : Nat) : Int), w5 b, (c : Int) - 1 - (b : Int), rbD D pk c b, zshl 1 (b : Int), (m : Int)], [], s2) (fun r => r.1 = [] ∧ (∀ cc j, cc ≠ 167 → cc ≠ 168 → r.2 cc j = s cc j) ∧ fsR c (rbD D pk c) r.2 (2 ^ c)) := by
        intro M1
        induction M1 using Nat.strongRecOn with
        | ind M1 ih1 =>
          intro m s2 hM1 hm f2 fs2
          refine b_X3_fillSums_43 _ _ _ _ _ s2 ht (fun g2 m2 hm2 => ?_) (fun g2 m2 hm2 => ?_)
          · rw [h2] at g2
            have : m = 2 ^ b := by omega
            subst this
            have w1 : w32 (w5 b * 5) = w5 (b + 1) := by
              rw [w5_s, w32_id (by omega) (by omega)]
            have w2 : w32 ((c : Int) - 1 - (b : Int) + (-1)) = (c : Int) - 1 - ((b + 1 : Nat) : Int) := by
              rw [w32_id (by omega) (by omega)]
              omega
            rw [w1, w2]
            refine ih m2 (by omega) (b + 1) s2 _ _ _ (by omega) f2 (fun x hx => fs2 x ?_)
            rw [Nat.pow_succ] at hx
            omega
          · rw [h2] at g2
            have hm' : m < 2 ^ b := by omega
            have o : zor (m : Int) (zshl 1 (b : Int)) = ((m + 2 ^ b : Nat) : Int) := zor_bit hm' (by omega)
            have s7 := (fs2 m (by omega)).1
            have s8 := (fs2 m (by omega)).2
            have a7 := sA_p (c := c) (φ := rbD D pk c) hm' hbc
            have a8 := sA_p (c := c) (φ := w5) hm' hbc
            have q7 := sA_rb (m := m) hc7 hr
            have q8 := sA_w5 (c := c) (m := m) hc7
            have qb := hr b hbc
            rw [o, Int.toNat_natCast, Int.toNat_natCast, s7, s8, w32_k (by omega), w32_id (z := sA c m (rbD D pk c) + rbD D pk c b) (by omega) (by omega), w32_id (z := sA c m w5 + w5 b) (by omega) (by omega), ← a7, ← a8]
            refine ih1 m2 hm2 (m + 1) _ (by omega) (by omega) (fun cc j h1 h2 => ?_) (fun x hx => ?_)
            · rw [zu_n (by omega), zu_n (by omega)]
              exact f2 cc j h1 h2
            · by_cases e : x = m + 2 ^ b
              · rw [e]
                refine ⟨?_, zu_eq _ _ _ _⟩
                rw [zu_n (by omega)]
                exact zu_eq _ _ _ _
              · have q := fs2 x (by omega)
                refine ⟨?_, ?_⟩
                · rw [zu_n (by omega), zu_n (by omega)]
                  exact q.1
                · rw [zu_n (by omega), zu_n (by omega)]
                  exact q.2
      exact inner M 0 s1 (Nat.le_refl _) (Nat.zero_le _) f1 fs
  refine c_X3_fillSums (b_X3_fillSums_0 _ _ _ _ _ s ht ?_)
  have e0 : w32 (s 165 0 - 1) = (c : Int) - 1 - ((0 : Nat) : Int) := by
    rw [hc5, w32_id (by omega) (by omega)]
    omega
  rw [e0]
  refine loop N 0 s _ _ _ (Nat.zero_le _) (fun _ _ _ _ => rfl) (fun m hm => ?_)
  have : m = 0 := by
    have : (2 : Nat) ^ 0 = 1 := rfl
    omega
  subst this
  rw [z7, z8, sA_0, sA_0]
  exact ⟨rfl, rfl⟩
theorem w64_val {p R k W B : Int} (hp : 0 ≤ p ∧ p ≤ 99) (hR : 0 ≤ R ∧ R ≤ 280) (hW : 0 ≤ k * W ∧ k * W ≤ 5000000) (hB : -40000000000 ≤ B ∧ B ≤ 40000000000) : w64 (w64 (w64 (w64 (p * 67108864) - w64 (R * 131072)) - w64 (k * W)) + B) = 67108864 * p - 131072 * R - k * W + B := by
  generalize k * W = z at hW ⊢
  rw [w64_id (z := p * 67108864) (by omega) (by omega), w64_id (z := R * 131072) (by omega) (by omega), w64_id (z := z) (by omega) (by omega), w64_id (z := p * 67108864 - R * 131072) (by omega) (by omega), w64_id (z := p * 67108864 - R * 131072 - z) (by omega) (by omega), w64_id (by omega) (by omega)]
  omega
theorem xor_sub_le {m g : Nat} (h : g &&& m = g) (hm : m < 4294967296) : m ^^^ g ≤ m := by
  by_cases c : g = 0
  · rw [c, Nat.xor_zero]
    exact Nat.le_refl _
  · exact Nat.le_of_lt (xor_sub_lt h (by omega) hm)
theorem bestWith_c {c j m H : Nat} {rb hh pp : Nat → Int} (ht : t = 7 ∨ t = 43) (hj : j < H) (h4 : H ≤ 4) (hc7 : c ≤ 7) (hm : m < 2 ^ c) (hr : ∀ b, b < c → 0 ≤ rb b ∧ rb b ≤ 40) (hp : ∀ k, k < H → 0 ≤ pp k ∧ pp k ≤ 99) (hh1 : ∀ k, k < H → 1 ≤ hh k)
    (row0 : s (zrho (t + 28) (H - 1 - j)) 0 = hh (H - 1 - j)) (row1 : s (zrho (t + 28) (H - 1 - j)) 1 = pp (H - 1 - j)) (fs : fsR c rb s (2 ^ c)) (hB : ∀ x, x ≤ m → mxb c H rb hh pp j x (s 169 x)) : zC N 384 [(((165 : Nat) : Int), 0), (((t : Nat) : Int), 0), (((H - 1 - j : Nat) : Int), 0), ((m : Int), 0)] s (fun r => ∃ v, r = ([(v, 1)], s) ∧ mxb c H rb hh pp (j + 1) m v) := by
  have p7 : 2 ^ c ≤ 2 ^ 7 := Nat.pow_le_pow_right (by decide) hc7
  have p7' : (2 : Nat) ^ 7 = 128 := by decide
  have loop : ∀ (M g : Nat) (most x5 x7 x8 x9 x10 : Int), g &&& m = g → (∀ y, y &&& m = y → (y = 0 ∨ g < y) → vlb c rb hh pp (H - 1 - j) y + s 169 (m ^^^ y) ≤ most) → (∃ y, y &&& m = y ∧ most = vlb c rb hh pp (H - 1 - j) y + s 169 (m ^^^ y)) → zT (zE 384) (Pt PX3_bestWith) M (11, [((165 : Nat) : Int), ((t : Nat) : Int), ((H - 1 - j : Nat) : Int), (m : Int), most, x5, (g : Int), x7, x8, x9, x10], [], s) (fun r => ∃ v, r = ([(v, 1)], s) ∧ mxb c H rb hh pp (j + 1) m v) := by
    intro M
    induction M using Nat.strongRecOn with
    | ind M ih =>
      intro g most x5 x7 x8 x9 x10 hg up ex
      have gm := sub_le hg
      have on : ∀ (m2 : Nat) (V a b d e : Int), m2 < M → 0 < g → V = vlb c rb hh pp (H - 1 - j) g + s 169 (m ^^^ g) → zT (zE 384) (Pt PX3_bestWith) m2 (11, [((165 : Nat) : Int), ((t : Nat) : Int), ((H - 1 - j : Nat) : Int), (m : Int), if V < most then most else V, x5, zand (w32 ((g : Int) - 1)) (m : Int), a, b, d, e], [], s) (fun r => ∃ v, r = ([(v, 1)], s) ∧ mxb c H rb hh pp (j + 1) m v) := fun m2 V a b d e hm2 g0 hV => by
        have eg : w32 ((g : Int) - 1) = ((g - 1 : Nat) : Int) := by
          rw [w32_id (by omega) (by omega)]
          omega
        rw [eg, zand_nat (by omega) (by omega)]
        refine ih m2 hm2 _ _ _ _ _ _ _ (and_sub _ _) (fun y hy hor => ?_) ?_
        · by_cases q : y = 0 ∨ g < y
          · have := up y hy q
            split <;> omega
          · have yg : y = g := Classical.byContradiction fun n => by
              have := sub_nx g y m hg hy (by omega)
              omega
            rw [yg, ← hV]
            split <;> omega
        · by_cases q : V < most
          · rw [if_pos q]
            exact ex
          · rw [if_neg q]
            exact ⟨g, hg, hV⟩
      have gB : 0 < g → g < 2 ^ c := fun _ => by omega
      have wv : ∀ p : Int, 0 ≤ p → p ≤ 99 → p = (if hh (H - 1 - j) ≤ sA c g rb then pp (H - 1 - j) else 0) → w64 ((w64 ((w64 ((w64 (p * 67108864)) - (w64 ((s 167 g) * 131072)))) - (w64 (((H - 1 - j : Nat) : Int) * (s 168 g))))) + (s 169 (m ^^^ g))) = vlb c rb hh pp (H - 1 - j) g + s 169 (m ^^^ g) := fun p p0 p99 hpe => by
        have q7 := sA_rb (m := g) hc7 hr
        have q8 := sA_w5 (c := c) (m := g) hc7
        have qB := mxb_bd hc7 (Nat.le_of_lt hj) h4 hr hp (hB (m ^^^ g) (xor_sub_le hg (by omega)))
        have k0 : 0 ≤ ((H - 1 - j : Nat) : Int) * sA c g w5 := Int.mul_nonneg (by omega) q8.1
        have k1 : ((H - 1 - j : Nat) : Int) * sA c g w5 ≤ 4 * sA c g w5 := Int.mul_le_mul_of_nonneg_right (by omega) q8.1
        have e7 := (fs g (by omega)).1
        have e8 := (fs g (by omega)).2
        rw [e7, e8, w64_val ⟨p0, p99⟩ q7 ⟨k0, by omega⟩ qB]
        unfold vlb
        rw [hpe]
      refine b_X3_bestWith_11 _ _ _ _ _ _ _ _ _ s ht (fun g1 => ?_) (fun g1 g2 m2 hm2 => ?_) (fun g1 g2 m2 hm2 => ?_)
      · have g0 : g = 0 := by omega
        refine ⟨most, rfl, mxb_s hj h4 hm (fun y hy => ⟨s 169 (m ^^^ y), hB _ (xor_sub_le hy (by omega)), up y hy (by omega)⟩) ?_⟩
        obtain ⟨y, hy, ey⟩ := ex
        exact ⟨y, s 169 (m ^^^ y), hy, hB _ (xor_sub_le hy (by omega)), ey⟩
      · have e7 := (fs g (by omega)).1
        simp only [Int.toNat_natCast] at g2 ⊢
        rw [row0, e7] at g2
        rw [zxor_nat (by omega) (by omega), Int.toNat_natCast]
        exact on m2 _ _ _ _ _ hm2 (by omega) (wv 0 (by decide) (by decide) (if_neg (by omega)).symm)
      · have e7 := (fs g (by omega)).1
        simp only [Int.toNat_natCast] at g2 ⊢
        rw [row0, e7] at g2
        have pb := hp (H - 1 - j) (by omega)
        rw [zxor_nat (by omega) (by omega), Int.toNat_natCast, row1]
        exact on m2 _ _ _ _ _ hm2 (by omega) (wv _ pb.1 pb.2 (if_pos g2).symm)
  refine c_X3_bestWith (b_X3_bestWith_0 _ _ _ _ _ _ _ _ _ s ht ?_)
  rw [Int.toNat_natCast]
  have v0 : vlb c rb hh pp (H - 1 - j) 0 + s 169 (m ^^^ 0) = s 169 m := by
    rw [vlb_0 (hh1 _ (by omega)), Nat.xor_zero, Int.zero_add]
  refine loop N m _ _ _ _ _ _ (Nat.and_self m) (fun y hy hor => ?_) ⟨0, Nat.zero_and m, v0.symm⟩
  have := sub_le hy
  have y0 : y = 0 := by omega
  rw [y0, v0]
  exact Int.le_refl _
theorem mxb_00 {c j H : Nat} {rb hh pp : Nat → Int} {v : Int} (hj : j < H) (h4 : H ≤ 4) (hh1 : ∀ k, k < H → 1 ≤ hh k) (h : mxb c H rb hh pp j 0 v) : mxb c H rb hh pp (j + 1) 0 v := by
  have z : ∀ g, g &&& 0 = g → g = 0 := fun g hg => by
    have := sub_le hg
    omega
  have v0 := vlb_0 (c := c) (rb := rb) (pp := pp) (hh1 (H - 1 - j) (by omega))
  refine mxb_s hj h4 (Nat.two_pow_pos c) (fun g hg => ⟨v, ?_, ?_⟩) ⟨0, v, rfl, ?_, ?_⟩
  · rw [z g hg]
    exact h
  · rw [z g hg, v0, Int.zero_add]
    exact Int.le_refl _
  · exact h
  · rw [v0, Int.zero_add]
theorem pack_c {c : Nat} {pk : Nat → Nat} (ht : t = 7 ∨ t = 43) (hd : cDn s t D) (hw : wD D) (hX : wX D) (hc5 : s 165 0 = (c : Int)) (hc7 : c ≤ 7) (hpk : ∀ i, i < c → s 166 i = ((pk i : Nat) : Int) ∧ pk i < cnt D 1) (z7 : s 167 0 = 0) (z8 : s 168 0 = 0) : zC N 388 [(((165 : Nat) : Int), 0), (((t : Nat) : Int), 0)] s (fun r => r.1 = [] ∧ (∀ cc j, cc ≠ 167 → cc ≠ 168 → cc ≠ 169 → r.2 cc j = s cc j) ∧ r.2 167 0 = 0 ∧ r.2 168 0 = 0 ∧ mxb c (cnt D 4) (rbD D pk c) (colD D 40) (colD D 41) (cnt D 4) (2 ^ c - 1) (r.2 169 (2 ^ c - 1))) := by
  have h4 : cnt D 4 ≤ 4 := hw.1 4 (by omega)
  have hr : ∀ b, b < c → 0 ≤ rbD D pk c b ∧ rbD D pk c b ≤ 40 := fun b hb => by
    have := rise_bd hw hX (hpk (c - 1 - b) (by omega)).2
    unfold rbD
    omega
  have hp : ∀ k, k < cnt D 4 → 0 ≤ colD D 41 k ∧ colD D 41 k ≤ 99 := fun k hk => hX.2.2.2.2.2.2.2.2.2.2 _ (col_mem' hw (k := 4) (j := 1) (by omega) (by omega) (by decide) hk)
  have hh1 : ∀ k, k < cnt D 4 → 1 ≤ colD D 40 k := fun k hk => (hX.2.2.2.2.2.2.2.2.2.1 _ (col_mem' hw (k := 4) (j := 0) (by omega) (by omega) (by decide) hk)).1
  have p2 : 1 ≤ 2 ^ c := Nat.one_le_two_pow
  have p7 : 2 ^ c ≤ 2 ^ 7 := Nat.pow_le_pow_right (by decide) hc7
  have p7' : (2 : Nat) ^ 7 = 128 := by decide
  have zc : zshl 1 (c : Int) = ((2 ^ c : Nat) : Int) := zshl_1 c (by omega)
  refine c_X3_pack (b_X3_pack_0 _ _ s ht (fun m0 _ => ?_))
  refine zC_q (fillSums_c ht hd hw hX hc5 hc7 hpk z7 z8) (fun r hr0 => ?_)
  obtain ⟨r1, s1⟩ := r
  obtain ⟨er, f1, fs⟩ := hr0
  have er : r1 = [] := er
  subst er
  have f1 : ∀ cc j, cc ≠ 167 → cc ≠ 168 → s1 cc j = s cc j := f1
  have fs : fsR c (rbD D pk c) s1 (2 ^ c) := fs
  have k5 : ∀ s2 : Zs, (∀ cc j, cc ≠ 169 → s2 cc j = s1 cc j) → s2 165 0 = (c : Int) := fun s2 f2 => ((f2 _ _ (by decide)).trans (f1 _ _ (by decide) (by decide))).trans hc5
  have kfs : ∀ s2 : Zs, (∀ cc j, cc ≠ 169 → s2 cc j = s1 cc j) → fsR c (rbD D pk c) s2 (2 ^ c) := fun s2 f2 x hx => by
    rw [f2 _ _ (by decide), f2 _ _ (by decide)]
    exact fs x hx
  have hills : ∀ (M j : Nat) (s2 : Zs) (x3 : Int), j ≤ cnt D 4 → (∀ cc j, cc ≠ 169 → s2 cc j = s1 cc j) → (∀ x, x < 2 ^ c → mxb c (cnt D 4) (rbD D pk c) (colD D 40) (colD D 41) j x (s2 169 x)) → zT (zE 388) (Pt PX3_pack) M (49, [((165 : Nat) : Int), ((t : Nat) : Int), ((cnt D 4 : Nat) : Int) - 1 - (j : Int), x3], [], s2) (fun r => r.1 = [] ∧ (∀ cc j, cc ≠ 167 → cc ≠ 168 → cc ≠ 169 → r.2 cc j = s cc j) ∧ r.2 167 0 = 0 ∧ r.2 168 0 = 0 ∧ mxb c (cnt D 4) (rbD D pk c) (colD D 40) (colD D 41) (cnt D 4) (2 ^ c - 1) (r.2 169 (2 ^ c - 1))) := by
    intro M
    induction M using Nat.strongRecOn with
    | ind M ih =>
      intro j s2 x3 hj f2 hB
      refine b_X3_pack_49 _ _ s2 ht (fun g => ?_) (fun g => ?_)
      · have ej : j = cnt D 4 := by omega
        have q := kfs s2 f2 0 (by omega)
        rw [sA_0, sA_0] at q
        refine ⟨rfl, fun cc i h1 h2 h3 => (f2 cc i h3).trans (f1 cc i h1 h2), q.1, q.2, ?_⟩
        have := hB (2 ^ c - 1) (by omega)
        rw [ej] at this
        exact this
      have hj2 : j < cnt D 4 := by omega
      have ek : ((cnt D 4 : Nat) : Int) - 1 - (j : Int) = ((cnt D 4 - 1 - j : Nat) : Int) := by omega
      have inner : ∀ (M1 m : Nat) (s3 : Zs), M1 ≤ M → m < 2 ^ c → (∀ cc j, cc ≠ 169 → s3 cc j = s1 cc j) → (∀ x, x < 2 ^ c → (m < x → mxb c (cnt D 4) (rbD D pk c) (colD D 40) (colD D 41) (j + 1) x (s3 169 x)) ∧ (x ≤ m → mxb c (cnt D 4) (rbD D pk c) (colD D 40) (colD D 41) j x (s3 169 x))) → zT (zE 388) (Pt PX3_pack) M1 (62, [((165 : Nat) : Int), ((t : Nat) : Int), ((cnt D 4 - 1 - j : Nat) : Int), (m : Int)], [], s3) (fun r => r.1 = [] ∧ (∀ cc j, cc ≠ 167 → cc ≠ 168 → cc ≠ 169 → r.2 cc j = s cc j) ∧ r.2 167 0 = 0 ∧ r.2 168 0 = 0 ∧ mxb c (cnt D 4) (rbD D pk c) (colD D 40) (colD D 41) (cnt D 4) (2 ^ c - 1) (r.2 169 (2 ^ c - 1))) := by
        intro M1
        induction M1 using Nat.strongRecOn with
        | ind M1 ih1 =>
          intro m s3 hM1 hm f3 hC
          refine b_X3_pack_62 _ _ s3 ht (fun g1 m2 hm2 => ?_) (fun g1 m2 hm2 => ?_)
          · have m0 : m = 0 := by omega
            have e : w32 (((cnt D 4 - 1 - j : Nat) : Int) + (-1)) = ((cnt D 4 : Nat) : Int) - 1 - ((j + 1 : Nat) : Int) := by
              rw [w32_id (by omega) (by omega)]
              omega
            rw [e]
            refine ih m2 (by omega) (j + 1) s3 _ (by omega) f3 (fun x hx => ?_)
            by_cases x0 : x = 0
            · have := (hC x hx).2 (by omega)
              rw [x0] at this ⊢
              exact mxb_00 hj2 h4 hh1 this
            · exact (hC x hx).1 (by omega)
          · have row : ∀ i, s3 (zrho (t + 28) (cnt D 4 - 1 - j)) i = s (zrho (t + 28) (cnt D 4 - 1 - j)) i := fun i => by
              rw [zrow4 ht (by omega), f3 _ _ (by omega), f1 _ _ (by omega) (by omega)]
            have row0 : s3 (zrho (t + 28) (cnt D 4 - 1 - j)) 0 = colD D 40 (cnt D 4 - 1 - j) := by
              rw [row, zrow4 ht (by omega)]
              exact cDn_col hd hw (k := 4) (j := 0) (by omega) (by omega) (by decide) (by omega)
            have row1 : s3 (zrho (t + 28) (cnt D 4 - 1 - j)) 1 = colD D 41 (cnt D 4 - 1 - j) := by
              rw [row, zrow4 ht (by omega)]
              exact cDn_col hd hw (k := 4) (j := 1) (by omega) (by omega) (by decide) (by omega)
            refine zC_q (bestWith_c ht hj2 h4 hc7 hm hr hp hh1 row0 row1 (kfs s3 f3) (fun x hx => (hC x (by omega)).2 hx)) (fun r hr9 => ?_)
            obtain ⟨v, rfl, hv⟩ := hr9
            refine b_X3_pack_78 _ _ _ _ s3 ht (fun m3 hm3 => ?_)
            have e : w32 ((m : Int) + (-1)) = ((m - 1 : Nat) : Int) := by
              rw [w32_id (by omega) (by omega)]
              omega
            rw [e, Int.toNat_natCast]
            refine ih1 m3 (by omega) (m - 1) _ (by omega) (by omega) (fun cc i h => ?_) (fun x hx => ⟨fun l => ?_, fun l => ?_⟩)
            · rw [zu_n (by omega)]
              exact f3 cc i h
            · by_cases xm : x = m
              · rw [xm, zu_eq]
                exact hv
              · rw [zu_n (by omega)]
                exact (hC x hx).1 (by omega)
            · rw [zu_n (by omega)]
              exact (hC x hx).2 (by omega)
      rw [k5 s2 f2, zc, ek]
      have e : w32 (((2 ^ c : Nat) : Int) - 1) = ((2 ^ c - 1 : Nat) : Int) := by
        rw [w32_id (by omega) (by omega)]
        omega
      rw [e]
      exact inner M (2 ^ c - 1) s2 (Nat.le_refl _) (by omega) f2 (fun x hx => ⟨fun l => by omega, fun _ => hB x hx⟩)
  have init : ∀ (M m : Nat) (s2 : Zs) (x3 : Int), m ≤ 2 ^ c → (∀ cc j, cc ≠ 169 → s2 cc j = s1 cc j) → (∀ x, x < m → s2 169 x = -4 * sA c x w5) → zT (zE 388) (Pt PX3_pack) M (7, [((165 : Nat) : Int), ((t : Nat) : Int), (m : Int), x3], [], s2) (fun r => r.1 = [] ∧ (∀ cc j, cc ≠ 167 → cc ≠ 168 → cc ≠ 169 → r.2 cc j = s cc j) ∧ r.2 167 0 = 0 ∧ r.2 168 0 = 0 ∧ mxb c (cnt D 4) (rbD D pk c) (colD D 40) (colD D 41) (cnt D 4) (2 ^ c - 1) (r.2 169 (2 ^ c - 1))) := by
    intro M
    induction M using Nat.strongRecOn with
    | ind M ih =>
      intro m s2 x3 hm f2 hI
      refine b_X3_pack_7 _ _ s2 ht (fun g => ?_) (fun g m2 hm2 => ?_)
      all_goals rw [k5 s2 f2, zc] at g
      · have em : m = 2 ^ c := by omega
        have e4 : s2 (t + 1) 4 = ((cnt D 4 : Nat) : Int) := by
          rw [f2 _ _ (by omega), f1 _ _ (by omega) (by omega)]
          exact hd.1 4 (by omega)
        have e : w32 (((cnt D 4 : Nat) : Int) - 1) = ((cnt D 4 : Nat) : Int) - 1 - ((0 : Nat) : Int) := by
          rw [w32_id (by omega) (by omega)]
          omega
        rw [e4, e]
        refine hills M 0 s2 x3 (Nat.zero_le _) f2 (fun x hx => ?_)
        rw [hI x (by omega)]
        exact mxb_0
      · have e8 := (kfs s2 f2 m (by omega)).2
        have q8 := sA_w5 (c := c) (m := m) hc7
        rw [Int.toNat_natCast, e8, w64_id (by omega) (by omega), w32_k (by omega)]
        refine ih m2 hm2 (m + 1) _ x3 (by omega) (fun cc i h => ?_) (fun x hx => ?_)
        · rw [zu_n (by omega)]
          exact f2 cc i h
        · by_cases xm : x = m
          · rw [xm, zu_eq]
          · rw [zu_n (by omega)]
            exact hI x (by omega)
  exact b_X3_pack_5 _ _ s1 ht (init m0 0 s1 _ (Nat.zero_le _) (fun _ _ _ => rfl) (fun x hx => absurd hx (Nat.not_lt_zero x)))
theorem whole_c {c : Nat} {v : Int} (hc7 : c ≤ 7) (hc5 : s 165 0 = (c : Int)) (hv : s 169 (2 ^ c - 1) = v) : zC N 391 [(((165 : Nat) : Int), 0)] s (fun r => r = ([(v, 1)], s)) := by
  have p2 : 1 ≤ 2 ^ c := Nat.one_le_two_pow
  have p7 : 2 ^ c ≤ 2 ^ 7 := Nat.pow_le_pow_right (by decide) hc7
  have p7' : (2 : Nat) ^ 7 = 128 := by decide
  have e : (w32 ((zshl 1 (s 165 0)) - 1)).toNat = 2 ^ c - 1 := by
    rw [hc5, zshl_1 c (by omega), w32_id (by omega) (by omega)]
    omega
  refine c_X3_whole (b_X3_whole_0 s ?_)
  show _ = _
  rw [e, hv]
theorem pay_c {c : Nat} {v p X : Int} (hc7 : c ≤ 7) (hc5 : s 165 0 = (c : Int)) (hv : s 169 (2 ^ c - 1) = v) (e : v = 67108864 * p - X) (hp : 0 ≤ p ∧ p ≤ 396) (hX9 : 0 ≤ X ∧ X < 67108864) : zC N 389 [(((165 : Nat) : Int), 0)] s (fun r => r = ([(p, 0)], s)) := by
  refine c_X3_pay (b_X3_pay_0 s (fun m _ => ?_))
  refine zC_q (whole_c hc7 hc5 hv) (fun r hr => ?_)
  subst hr
  refine b_X3_pay_4 _ s ?_
  show _ = _
  rw [w64_id (z := v + 67108864) (by omega) (by omega), w64_id (by omega) (by omega), zdivL_pos (by omega) (by omega) (by decide) (by decide)]
  have q : (v + 67108864 - 1) / 67108864 = p := by omega
  rw [q, zl2i_id hp.1 (by omega)]
theorem rise_c {c : Nat} {v p R W : Int} (hc7 : c ≤ 7) (hc5 : s 165 0 = (c : Int)) (hv : s 169 (2 ^ c - 1) = v) (e : v = 67108864 * p - (131072 * R + W)) (hp : 0 ≤ p ∧ p ≤ 396) (hR : 0 ≤ R ∧ R ≤ 280) (hW : 0 ≤ W ∧ W ≤ 78124) : zC N 390 [(((165 : Nat) : Int), 0)] s (fun r => r = ([(R, 0)], s)) := by
  refine c_X3_rise (b_X3_rise_0 s (fun m _ => ?_))
  refine zC_q (pay_c hc7 hc5 hv e hp (by omega)) (fun r hr => ?_)
  subst hr
  refine b_X3_rise_4 _ s (fun m2 _ => ?_)
  refine zC_q (whole_c hc7 hc5 hv) (fun r hr => ?_)
  subst hr
  refine b_X3_rise_13 _ _ s ?_
  show _ = _
  rw [w64_id (z := p * 67108864) (by omega) (by omega), w64_id (by omega) (by omega), zdivL_pos (by omega) (by omega) (by decide) (by decide)]
  have q : (p * 67108864 - v) / 131072 = R := by omega
  rw [q, zl2i_id hR.1 (by omega)]
theorem hpw_bd {a : Nat → Nat} (h : ∀ i, a i ≤ 4) : ∀ n, 0 ≤ hpw a n ∧ hpw a n + 1 ≤ w5 n
  | 0 => ⟨Int.le_refl _, Int.le_refl _⟩
  | n + 1 => by
    have ih := hpw_bd h n
    have := h n
    have e : hpw a (n + 1) = 5 * hpw a n + (a n : Int) := rfl
    rw [e, w5_s]
    omega
/-- a hill as it is told; 4: none -/
def rwd (k : Nat) : Int := if k = 4 then -1 else (k : Int)
theorem hillOf_c {c row : Nat} {v p R : Int} {a : Nat → Nat} (hc7 : c ≤ 7) (hrow : row < c) (ha : ∀ i, a i ≤ 4) (hc5 : s 165 0 = (c : Int)) (hv : s 169 (2 ^ c - 1) = v) (e : v = 67108864 * p - (131072 * R + hpw a c)) (hp : 0 ≤ p ∧ p ≤ 396) (hR : 0 ≤ R ∧ R ≤ 280) : zC N 387 [(((165 : Nat) : Int), 0), ((row : Int), 0)] s (fun r => r = ([(rwd (a row), 0)], s)) := by
  have hW : 0 ≤ hpw a c ∧ hpw a c ≤ 78124 := by
    have := hpw_bd ha c
    have := w5_bd hc7
    omega
  have loop : ∀ (M i : Nat) (x3 : Int), row ≤ i → i < c → zT (zE 387) (Pt PX3_hillOf) M (27, [((165 : Nat) : Int), (row : Int), hpw a (i + 1), x3, (i : Int)], [], s) (fun r => r = ([(rwd (a row), 0)], s)) := by
    intro M
    induction M using Nat.strongRecOn with
    | ind M ih =>
      intro i x3 h1 h2
      have eh : hpw a (i + 1) = 5 * hpw a i + (a i : Int) := rfl
      have b1 := hpw_bd ha (i + 1)
      have b0 := hpw_bd ha i
      have b5 := w5_bd (b := i + 1) (by omega)
      have ai := ha i
      have er : zl2i (zremL (hpw a (i + 1)) 5) = (a i : Int) := by
        rw [zremL_q (by omega) (by omega) (by decide) (by decide)]
        have q : hpw a (i + 1) % 5 = (a i : Int) := by omega
        rw [q, zl2i_id (by omega) (by omega)]
      refine b_X3_hillOf_27 _ _ _ _ s (fun g1 g2 => ?_) (fun g1 g2 => ?_) (fun g1 m hm => ?_)
      · have ei : i = row := by omega
        subst ei
        rw [er] at g2
        show _ = _
        rw [er]
        unfold rwd
        rw [if_neg (by omega)]
      · have ei : i = row := by omega
        subst ei
        rw [er] at g2
        show _ = _
        unfold rwd
        rw [if_pos (by omega)]
      · obtain ⟨i', rfl⟩ : ∃ i', i = i' + 1 := ⟨i - 1, by omega⟩
        have ed : zdivL (hpw a (i' + 1 + 1)) 5 = hpw a (i' + 1) := by
          rw [zdivL_pos (by omega) (by omega) (by decide) (by decide)]
          omega
        have ew : w32 (((i' + 1 : Nat) : Int) + (-1)) = (i' : Int) := by
          rw [w32_id (by omega) (by omega)]
          omega
        rw [ed, ew]
        exact ih m hm i' x3 (by omega) (by omega)
  refine c_X3_hillOf (b_X3_hillOf_0 _ _ _ _ s (fun m _ => ?_))
  refine zC_q (pay_c hc7 hc5 hv e hp (by omega)) (fun r hr => ?_)
  subst hr
  refine b_X3_hillOf_4 _ _ _ _ _ s (fun m2 _ => ?_)
  refine zC_q (whole_c hc7 hc5 hv) (fun r hr => ?_)
  subst hr
  refine b_X3_hillOf_13 _ _ _ _ _ _ s ?_
  rw [w64_id (z := p * 67108864) (by omega) (by omega), w64_id (by omega) (by omega), zremL_q (by omega) (by omega) (by decide) (by decide), hc5]
  have q : (p * 67108864 - v) % 131072 = hpw a (c - 1 + 1) := by
    rw [show c - 1 + 1 = c from by omega]
    omega
  have ew : w32 ((c : Int) - 1) = ((c - 1 : Nat) : Int) := by
    rw [w32_id (by omega) (by omega)]
    omega
  rw [q, ew]
  exact loop m2 (c - 1) _ (by omega) (by omega)
/-! the answer -/
def ordG (D : ZD) (S : ZS) : Nat := g7 (ndf (2 ^ cnt D 1 - 1) (sTh S))
def odN (D : ZD) (S : ZS) : Nat := cnB (fun i => (ordG D S).testBit i) (cnt D 1)
def odA (D : ZD) (S : ZS) (x v : Int) : Prop := (x < 0 ∨ ((odN D S : Nat) : Int) + 1 < x → v = -2) ∧ (0 ≤ x → x ≤ ((odN D S : Nat) : Int) + 1 → ∃ d, gdd (cnt D 1) (cnt D 4) (colD D 12) (colD D 40) (ordG D S) d ∧ (∀ e, gdd (cnt D 1) (cnt D 4) (colD D 12) (colD D 40) (ordG D S) e → vld (cnt D 1) (cnt D 4) (colD D 12) (colD D 40) (colD D 41) (ordG D S) e ≤ vld (cnt D 1) (cnt D 4) (colD D 12) (colD D 40) (colD D 41) (ordG D S) d) ∧ (x = 0 → v = pyd (cnt D 1) (cnt D 4) (colD D 12) (colD D 40) (colD D 41) d) ∧ (x = 1 → v = rsd (cnt D 1) (colD D 12) d) ∧ (2 ≤ x → ∃ f, f < cnt D 1 ∧ (ordG D S).testBit f = true ∧ ((cnB (fun i => (ordG D S).testBit i) f : Nat) : Int) = x - 2 ∧ v = rwd (d f)))
theorem od_hr (hw : wD D) (hX : wX D) : ∀ f, f < cnt D 1 → 1 ≤ colD D 12 f ∧ colD D 12 f ≤ 40 := fun _ hf => rise_bd hw hX hf
theorem od_hp (hw : wD D) (hX : wX D) : ∀ k, k < cnt D 4 → 0 ≤ colD D 41 k ∧ colD D 41 k ≤ 99 := fun k hk => hX.2.2.2.2.2.2.2.2.2.2 _ (col_mem' hw (k := 4) (j := 1) (by omega) (by omega) (by decide) hk)
theorem od_hh (hw : wD D) (hX : wX D) : ∀ k, k < cnt D 4 → 1 ≤ colD D 40 k ∧ colD D 40 k ≤ 99 := fun k hk => hX.2.2.2.2.2.2.2.2.2.1 _ (col_mem' hw (k := 4) (j := 0) (by omega) (by omega) (by decide) hk)
theorem od_7 (hw : wD D) : odN D S ≤ 7 := g7_le (hw.1 1 (by omega))
/-- there is one answer -/
theorem odA_u (hw : wD D) (hX : wX D) {x v1 v2 : Int} (h1 : odA D S x v1) (h2 : odA D S x v2) : v1 = v2 := by
  by_cases c : 0 ≤ x ∧ x ≤ ((odN D S : Nat) : Int) + 1
  · obtain ⟨d1, a1, a2, a3, a4, a5⟩ := h1.2 c.1 c.2
    obtain ⟨d2, b1, b2, b3, b4, b5⟩ := h2.2 c.1 c.2
    have l1 := a2 d2 b1
    have l2 := b2 d1 a1
    have h4 : cnt D 4 ≤ 4 := hw.1 4 (by omega)
    have q1 := vld_bd (od_hr hw hX) a1.1 h4 (od_7 hw)
    have q2 := vld_bd (od_hr hw hX) b1.1 h4 (od_7 hw)
    have e : pyd (cnt D 1) (cnt D 4) (colD D 12) (colD D 40) (colD D 41) d1 = pyd (cnt D 1) (cnt D 4) (colD D 12) (colD D 40) (colD D 41) d2 ∧ rsd (cnt D 1) (colD D 12) d1 = rsd (cnt D 1) (colD D 12) d2 ∧ wtd (ordG D S) d1 (cnt D 1) = wtd (ordG D S) d2 (cnt D 1) := by
      unfold vld at l1 l2
      omega
    by_cases x0 : x = 0
    · rw [a3 x0, b3 x0, e.1]
    by_cases x1 : x = 1
    · rw [a4 x1, b4 x1, e.2.1]
    obtain ⟨f1, m1, m2, m3, m4⟩ := a5 (by omega)
    obtain ⟨f2, n1, n2, n3, n4⟩ := b5 (by omega)
    have ef : f1 = f2 := cnB_inj (p := fun i => (ordG D S).testBit i) m2 n2 (by omega)
    subst ef
    rw [m4, n4, wtd_inj a1.1 b1.1 h4 _ (Nat.le_refl _) e.2.2 f1 m1]
  · rw [h1.1 (by omega), h2.1 (by omega)]
theorem orders_c (ht : t = 7 ∨ t = 43) (e3 : s 0 3 = ((t : Nat) : Int)) (hd : cDn s t D) (hw : wD D) (hX : wX D) (hS : cSt s 79 D S) (z7 : s 167 0 = 0) (z8 : s 168 0 = 0) {x : Int} (hx : x < 2147483648) : zC N 1305 [(((0 : Nat) : Int), 0), (x, 0)] s (fun r => (∃ v, r.1 = [(v, 0)] ∧ odA D S x v) ∧ r.2 167 0 = 0 ∧ r.2 168 0 = 0) := by
  have h10 : cnt D 1 ≤ 10 := hw.1 1 (by omega)
  have h4 : cnt D 4 ≤ 4 := hw.1 4 (by omega)
  have b3 : 2 ^ cnt D 1 ≤ 2 ^ 10 := Nat.pow_le_pow_right (by decide) h10
  have b4 : (2 : Nat) ^ 10 = 1024 := by decide
  have b5 : 1 ≤ 2 ^ cnt D 1 := Nat.one_le_two_pow
  have e0 : s 79 0 = ((sTh S : Nat) : Int) := hS.1
  have gl : ndf (2 ^ cnt D 1 - 1) (sTh S) < 2 ^ cnt D 1 := by
    have := ndf_le (a := 2 ^ cnt D 1 - 1) (b := sTh S) (by omega)
    omega
  refine c_X10_orders (b_X10_orders_0 _ _ s ht (fun m _ => ?_))
  rw [e3]
  refine zC_q (all_ok ht hd hw) (fun r hr => ?_)
  subst hr
  refine b_X10_orders_19 _ _ _ _ s ht (fun m2 _ => ?_)
  rw [e0, zandn (by omega)]
  refine zC_q (choose_c ht hd hw gl) (fun r hr => ?_)
  obtain ⟨r1, s1⟩ := r
  obtain ⟨er, f1, c5, cp⟩ := hr
  have er : r1 = [] := er
  subst er
  have f1 : ∀ c j, ¬ (c = 165 ∧ j = 0) → c ≠ 166 → s1 c j = s c j := f1
  have c5 : s1 165 0 = ((odN D S : Nat) : Int) := c5
  have cp : ∀ f, f < cnt D 1 → (ordG D S).testBit f = true → s1 166 (cnB (fun i => (ordG D S).testBit i) f) = ((f : Nat) : Int) := cp
  have n7 : odN D S ≤ 7 := od_7 hw
  have y7 : s1 167 0 = 0 := (f1 _ _ (by omega) (by omega)).trans z7
  have y8 : s1 168 0 = 0 := (f1 _ _ (by omega) (by omega)).trans z8
  have t3 : s1 0 3 = ((t : Nat) : Int) := (f1 _ _ (by omega) (by omega)).trans e3
  have hd1 : cDn s1 t D := cDn_e hd hw (fun cc j h => f1 cc j (by omega) (by omega))
  have bad : (x < 0 ∨ ((odN D S : Nat) : Int) + 1 < x) → ((∃ v, (([(-2, 0)], s1) : Zr).1 = [(v, 0)] ∧ odA D S x v) ∧ (([(-2, 0)], s1) : Zr).2 167 0 = 0 ∧ (([(-2, 0)], s1) : Zr).2 168 0 = 0) := fun q => ⟨⟨-2, rfl, fun _ => rfl, fun q1 q2 => by omega⟩, y7, y8⟩
  refine b_X10_orders_32 _ _ s1 ht (fun g => bad (Or.inl g)) (fun g g2 m3 _ => ?_) (fun g g2 => ?_)
  rotate_left
  · rw [c5, w32_id (by omega) (by omega)] at g2
    exact bad (Or.inr (by omega))
  rw [c5, w32_id (by omega) (by omega)] at g2
  rw [t3]
  have pp : ∃ pk : Nat → Nat, ∀ i, pk i = (s1 166 i).toNat := ⟨fun i => (s1 166 i).toNat, fun _ => rfl⟩
  obtain ⟨pk, hpk⟩ := pp
  have hp1 : ∀ f, f < cnt D 1 → (ordG D S).testBit f = true → pk (cnB (fun f => (ordG D S).testBit f) f) = f := fun f hf q => by
    rw [hpk, cp f hf q, Int.toNat_natCast]
  have hp2 : ∀ i, i < odN D S → s1 166 i = ((pk i : Nat) : Int) ∧ pk i < cnt D 1 := fun i hi => by
    obtain ⟨f, m1, m2, m3⟩ := cnB_sur (p := fun i => (ordG D S).testBit i) (cnt D 1) i hi
    have c1 := cp f m1 m2
    have c2 := hp1 f m1 m2
    rw [m3] at c1 c2
    rw [c1, c2]
    exact ⟨rfl, m1⟩
  refine zC_q (pack_c ht hd1 hw hX c5 n7 hp2 y7 y8) (fun r hr => ?_)
  obtain ⟨r1, s2⟩ := r
  obtain ⟨er, f2, x7, x8, hm⟩ := hr
  have er : r1 = [] := er
  subst er
  have f2 : ∀ cc j, cc ≠ 167 → cc ≠ 168 → cc ≠ 169 → s2 cc j = s1 cc j := f2
  have x7 : s2 167 0 = 0 := x7
  have x8 : s2 168 0 = 0 := x8
  have d5 : s2 165 0 = ((odN D S : Nat) : Int) := (f2 _ _ (by decide) (by decide) (by decide)).trans c5
  obtain ⟨d, g1, g3, g4⟩ := mxb_mxd (G := ordG D S) (F := cnt D 1) (H := cnt D 4) (r := colD D 12) (hh := colD D 40) (pp := colD D 41) (c := odN D S) (pk := pk) rfl h4 (od_hr hw hX) n7 (fun k hk => (od_hh hw hX k hk).1) hp1 hm
  have g3 : s2 169 (2 ^ odN D S - 1) = vld (cnt D 1) (cnt D 4) (colD D 12) (colD D 40) (colD D 41) (ordG D S) d := g3.symm
  have g4 : ∀ e, okd (cnt D 1) (cnt D 4) (ordG D S) e → vld (cnt D 1) (cnt D 4) (colD D 12) (colD D 40) (colD D 41) (ordG D S) e ≤ vld (cnt D 1) (cnt D 4) (colD D 12) (colD D 40) (colD D 41) (ordG D S) d := fun e he => by
    rw [← g3]
    exact g4 e he
  have dA : ∀ v, (x = 0 → v = pyd (cnt D 1) (cnt D 4) (colD D 12) (colD D 40) (colD D 41) d) → (x = 1 → v = rsd (cnt D 1) (colD D 12) d) → (2 ≤ x → ∃ f, f < cnt D 1 ∧ (ordG D S).testBit f = true ∧ ((cnB (fun i => (ordG D S).testBit i) f : Nat) : Int) = x - 2 ∧ v = rwd (d f)) → odA D S x v := fun v k1 k2 k3 => ⟨fun q => by omega, fun _ _ => ⟨d, g1, fun e he => g4 e he.1, k1, k2, k3⟩⟩
  have bp := pyd_bd (F := cnt D 1) (r := colD D 12) (hh := colD D 40) (d := d) h4 (od_hp hw hX)
  have bq := vld_bd (od_hr hw hX) g1.1 h4 n7
  have wh : wtd (ordG D S) d (cnt D 1) = hpw (fun i => if i < odN D S then d (pk i) else 0) (odN D S) := by
    rw [wtd_hp (F := cnt D 1) hp1 (cnt D 1) (Nat.le_refl _)]
    exact hpw_e _ (fun i hi => (if_pos hi).symm)
  have ev : vld (cnt D 1) (cnt D 4) (colD D 12) (colD D 40) (colD D 41) (ordG D S) d = 67108864 * pyd (cnt D 1) (cnt D 4) (colD D 12) (colD D 40) (colD D 41) d - (131072 * rsd (cnt D 1) (colD D 12) d + wtd (ordG D S) d (cnt D 1)) := by
    unfold vld
    omega
  refine b_X10_orders_61 _ _ s2 ht (fun u1 u2 m4 _ => ?_) (fun u1 u2 m4 _ => ?_) (fun u1 m4 _ => ?_)
  · have ex : w32 (x - 2) = ((x.toNat - 2 : Nat) : Int) := by
      rw [w32_id (by omega) (by omega)]
      omega
    have hrow : x.toNat - 2 < odN D S := by omega
    rw [ex]
    rw [wh] at ev
    refine zC_q (hillOf_c (a := fun i => if i < odN D S then d (pk i) else 0) n7 hrow (fun i => ?_) d5 g3 ev bp ⟨bq.1, bq.2.1⟩) (fun r hr => ?_)
    · show (if i < odN D S then d (pk i) else 0) ≤ 4
      by_cases l : i < odN D S
      · rw [if_pos l]
        exact okd_4 g1.1 h4 _ (hp2 i l).2
      · rw [if_neg l]
        exact Nat.zero_le _
    · subst hr
      refine b_X10_orders_96 _ _ _ s2 ht ⟨⟨_, rfl, dA _ (fun q => absurd q u1) (fun q => absurd q u2) (fun _ => ?_)⟩, x7, x8⟩
      obtain ⟨f, m1, m2, m3⟩ := cnB_sur (p := fun i => (ordG D S).testBit i) (cnt D 1) (x.toNat - 2) hrow
      refine ⟨f, m1, m2, ?_, ?_⟩
      · rw [m3]
        omega
      · have e1 : pk (x.toNat - 2) = f := by
          rw [← m3]
          exact hp1 f m1 m2
        show rwd (if x.toNat - 2 < odN D S then d (pk (x.toNat - 2)) else 0) = rwd (d f)
        rw [if_pos hrow, e1]
  · refine zC_q (rise_c n7 d5 g3 ev bp ⟨bq.1, bq.2.1⟩ bq.2.2) (fun r hr => ?_)
    subst hr
    exact b_X10_orders_85 _ _ _ s2 ht ⟨⟨_, rfl, dA _ (fun q => absurd q u1) (fun _ => rfl) (fun q => by omega)⟩, x7, x8⟩
  · refine zC_q (pay_c n7 d5 g3 ev bp (by omega)) (fun r hr => ?_)
    subst hr
    exact b_X10_orders_72 _ _ _ s2 ht ⟨⟨_, rfl, dA _ (fun _ => rfl) (fun q => by omega) (fun q => by omega)⟩, x7, x8⟩
end Zor
