/-! packings: sums, sets of bits, the best of all -/
def sU (φ : Nat → Int) : Nat → Int
  | 0 => 0
  | n + 1 => sU φ n + φ n
theorem sU_s (φ : Nat → Int) (n : Nat) : sU φ (n + 1) = sU φ n + φ n := rfl
theorem sU_e {φ ψ : Nat → Int} : ∀ n, (∀ i, i < n → φ i = ψ i) → sU φ n = sU ψ n
  | 0, _ => rfl
  | n + 1, h => by rw [sU_s, sU_s, sU_e n (fun i hi => h i (by omega)), h n (by omega)]
theorem sU_add (φ ψ : Nat → Int) : ∀ n, sU (fun i => φ i + ψ i) n = sU φ n + sU ψ n
  | 0 => rfl
  | n + 1 => by
    have h := sU_add φ ψ n
    have e : sU (fun i => φ i + ψ i) (n + 1) = sU (fun i => φ i + ψ i) n + (φ n + ψ n) := rfl
    rw [e, sU_s, sU_s, h]
    omega
theorem sU_mul (k : Int) (φ : Nat → Int) : ∀ n, sU (fun i => k * φ i) n = k * sU φ n
  | 0 => (Int.mul_zero k).symm
  | n + 1 => by
    have h := sU_mul k φ n
    have e : sU (fun i => k * φ i) (n + 1) = sU (fun i => k * φ i) n + k * φ n := rfl
    rw [e, sU_s, h, Int.mul_add]
theorem sU_z {φ : Nat → Int} : ∀ n, (∀ i, i < n → φ i = 0) → sU φ n = 0
  | 0, _ => rfl
  | n + 1, h => by rw [sU_s, sU_z n (fun i hi => h i (by omega)), h n (by omega)]; rfl
theorem sU_le {φ ψ : Nat → Int} : ∀ n, (∀ i, i < n → φ i ≤ ψ i) → sU φ n ≤ sU ψ n
  | 0, _ => Int.le_refl _
  | n + 1, h => by
    have h1 := sU_le n (fun i hi => h i (by omega))
    have h2 := h n (by omega)
    rw [sU_s, sU_s]
    omega
theorem sU_nn {φ : Nat → Int} : ∀ n, (∀ i, i < n → 0 ≤ φ i) → 0 ≤ sU φ n
  | 0, _ => Int.le_refl _
  | n + 1, h => by
    have h1 := sU_nn n (fun i hi => h i (by omega))
    have h2 := h n (by omega)
    rw [sU_s]
    omega
theorem sU_K {φ : Nat → Int} {K : Int} : ∀ n, (∀ i, i < n → φ i ≤ K) → sU φ n ≤ K * (n : Int)
  | 0, _ => by
    show (0 : Int) ≤ K * 0
    rw [Int.mul_zero]
    exact Int.le_refl _
  | n + 1, h => by
    have h1 := sU_K n (fun i hi => h i (by omega))
    have h2 := h n (by omega)
    have e : K * ((n + 1 : Nat) : Int) = K * (n : Int) + K := by
      rw [show ((n + 1 : Nat) : Int) = (n : Int) + 1 from by omega, Int.mul_add, Int.mul_one]
    rw [sU_s, e]
    omega
theorem sU_mem {φ : Nat → Int} : ∀ n i, i < n → (∀ j, j < n → 0 ≤ φ j) → φ i ≤ sU φ n
  | 0, i, hi, _ => absurd hi (Nat.not_lt_zero i)
  | n + 1, i, hi, h => by
    have h1 := sU_nn n (fun j hj => h j (by omega))
    have h2 := h n (by omega)
    rw [sU_s]
    by_cases c : i = n
    · rw [c]; omega
    · have := sU_mem n i (by omega) (fun j hj => h j (by omega))
      omega
theorem sU_pos {φ : Nat → Int} : ∀ n, 0 < sU φ n → ∃ i, i < n ∧ 0 < φ i
  | 0, h => absurd h (Int.lt_irrefl 0)
  | n + 1, h => by
    rw [sU_s] at h
    by_cases c : 0 < φ n
    · exact ⟨n, by omega, c⟩
    · obtain ⟨i, hi, hp⟩ := sU_pos (φ := φ) n (by omega)
      exact ⟨i, by omega, hp⟩
theorem sU_one {φ : Nat → Int} {b : Nat} : ∀ n, sU (fun i => if i = b then φ i else 0) n = if b < n then φ b else 0
  | 0 => rfl
  | n + 1 => by
    have h := sU_one (φ := φ) (b := b) n
    have e : sU (fun i => if i = b then φ i else 0) (n + 1) = sU (fun i => if i = b then φ i else 0) n + (if n = b then φ n else 0) := rfl
    rw [e, h]
    by_cases c : n = b
    · subst c
      rw [if_neg (Nat.lt_irrefl n), if_pos rfl, if_pos (Nat.lt_succ_self n), Int.zero_add]
    · rw [if_neg c, Int.add_zero]
      by_cases l : b < n
      · rw [if_pos l, if_pos (show b < n + 1 by omega)]
      · rw [if_neg l, if_neg (show ¬ b < n + 1 by omega)]
theorem sU_front (φ : Nat → Int) : ∀ n, sU φ (n + 1) = φ 0 + sU (fun i => φ (i + 1)) n
  | 0 => by
    show (0 : Int) + φ 0 = φ 0 + 0
    omega
  | n + 1 => by
    have h := sU_front φ n
    have e : sU (fun i => φ (i + 1)) (n + 1) = sU (fun i => φ (i + 1)) n + φ (n + 1) := rfl
    rw [sU_s, h, e]
    omega
theorem sU_rev (φ : Nat → Int) : ∀ n, sU (fun b => φ (n - 1 - b)) n = sU φ n
  | 0 => rfl
  | n + 1 => by
    have h := sU_rev φ n
    have e : sU (fun b => φ (n + 1 - 1 - b)) (n + 1) = φ (n + 1 - 1 - 0) + sU (fun i => φ (n + 1 - 1 - (i + 1))) n := sU_front _ n
    have e2 : sU (fun i => φ (n + 1 - 1 - (i + 1))) n = sU (fun b => φ (n - 1 - b)) n := sU_e n (fun i _ => congrArg φ (show n + 1 - 1 - (i + 1) = n - 1 - i by omega))
    have e3 : φ (n + 1 - 1 - 0) = φ n := congrArg φ (show n + 1 - 1 - 0 = n by omega)
    rw [e, e2, e3, h, sU_s]
    omega
/-- from f on -/
theorem tl_e {φ ψ : Nat → Int} {f : Nat} : ∀ d, (∀ i, f ≤ i → i < f + d → φ i = ψ i) → sU φ (f + d) - sU φ f = sU ψ (f + d) - sU ψ f
  | 0, _ => by
    show sU φ f - sU φ f = sU ψ f - sU ψ f
    omega
  | d + 1, h => by
    have h1 := tl_e d (fun i a b => h i a (by omega))
    have h2 := h (f + d) (by omega) (by omega)
    rw [show f + (d + 1) = f + d + 1 from rfl, sU_s, sU_s]
    omega
theorem tl_le {φ ψ : Nat → Int} {f : Nat} : ∀ d, (∀ i, f ≤ i → i < f + d → φ i ≤ ψ i) → sU φ (f + d) - sU φ f ≤ sU ψ (f + d) - sU ψ f
  | 0, _ => by
    show sU φ f - sU φ f ≤ sU ψ f - sU ψ f
    omega
  | d + 1, h => by
    have h1 := tl_le d (fun i a b => h i a (by omega))
    have h2 := h (f + d) (by omega) (by omega)
    rw [show f + (d + 1) = f + d + 1 from rfl, sU_s, sU_s]
    omega
theorem tl_nn {φ : Nat → Int} {f : Nat} : ∀ d, (∀ i, f ≤ i → i < f + d → 0 ≤ φ i) → 0 ≤ sU φ (f + d) - sU φ f
  | 0, _ => by
    show 0 ≤ sU φ f - sU φ f
    omega
  | d + 1, h => by
    have h1 := tl_nn d (fun i a b => h i a (by omega))
    have h2 := h (f + d) (by omega) (by omega)
    rw [show f + (d + 1) = f + d + 1 from rfl, sU_s]
    omega
/-! sets -/
theorem sub_tb {g m : Nat} (h : g &&& m = g) {i : Nat} (hg : g.testBit i = true) : m.testBit i = true := by
  have e := congrArg (fun x => Nat.testBit x i) h
  simp only [Nat.testBit_and, hg, Bool.true_and] at e
  exact e
theorem tb_sub {g m : Nat} (h : ∀ i, g.testBit i = true → m.testBit i = true) : g &&& m = g := by
  apply Nat.eq_of_testBit_eq
  intro i
  rw [Nat.testBit_and]
  cases hg : g.testBit i with
  | false => rfl
  | true => simp [h i hg]
theorem tb_lt {m c i : Nat} (h : m < 2 ^ c) (hb : m.testBit i = true) : i < c := Classical.byContradiction fun q => by
  have : m.testBit i = false := Nat.testBit_lt_two_pow (Nat.lt_of_lt_of_le h (Nat.pow_le_pow_right (by decide) (by omega)))
  rw [hb] at this
  cases this
theorem sub_le {g m : Nat} (h : g &&& m = g) : g ≤ m := by
  rw [← h]
  exact Nat.and_le_right
theorem and_sub (x m : Nat) : (x &&& m) &&& m = x &&& m := by rw [Nat.and_assoc, Nat.and_self]
/-- the next smaller set within m -/
theorem sub_nx (x : Nat) : ∀ g m : Nat, x &&& m = x → g &&& m = g → g < x → g ≤ (x - 1) &&& m := by
  induction x using Nat.strongRecOn with
  | ind x ih =>
    intro g m hx hg hl
    have hx2 : x / 2 &&& m / 2 = x / 2 := by rw [← Nat.and_div_two, hx]
    have hg2 : g / 2 &&& m / 2 = g / 2 := by rw [← Nat.and_div_two, hg]
    have e1 : ((x - 1) &&& m) / 2 = (x - 1) / 2 &&& m / 2 := Nat.and_div_two
    by_cases c : x % 2 = 1
    · have e2 : (x - 1) / 2 = x / 2 := by omega
      rw [e2, hx2] at e1
      generalize (x - 1) &&& m = y at e1 ⊢
      omega
    · have e2 : (x - 1) / 2 = x / 2 - 1 := by omega
      have h1 := ih (x / 2) (by omega) (g / 2) (m / 2) hx2 hg2 (by omega)
      rw [e2] at e1
      rw [← e1] at h1
      have h2 : g % 2 = 1 → ((x - 1) &&& m) % 2 = 1 := fun q => by
        have q2 : (g &&& m) % 2 = 1 := by rw [hg]; exact q
        exact Nat.and_mod_two_eq_one.mpr ⟨by omega, (Nat.and_mod_two_eq_one.mp q2).2⟩
      clear e1
      generalize (x - 1) &&& m = y at h1 h2 ⊢
      omega
theorem xor_sub_lt {m g : Nat} (h : g &&& m = g) (h0 : 0 < g) (hm : m < 4294967296) : m ^^^ g < m := by
  have gm := sub_le h
  have e : m ^^^ g = ndf m g := by
    apply Nat.eq_of_testBit_eq
    intro i
    rw [Nat.testBit_xor, ndf_tb hm (Nat.lt_of_le_of_lt gm hm)]
    cases hg : g.testBit i with
    | false => simp
    | true => simp [sub_tb h hg]
  have le := ndf_le (b := g) hm
  rw [← e] at le
  refine Nat.lt_of_le_of_ne le (fun q => ?_)
  have q2 : m ^^^ (m ^^^ g) = m ^^^ m := by rw [q]
  rw [← Nat.xor_assoc, Nat.xor_self, Nat.zero_xor] at q2
  omega
theorem xor_tb {m g : Nat} (h : g &&& m = g) {i : Nat} (hb : (m ^^^ g).testBit i = true) : m.testBit i = true ∧ ¬ g.testBit i = true := by
  rw [Nat.testBit_xor] at hb
  cases hg : g.testBit i with
  | false => rw [hg] at hb; simp at hb; exact ⟨hb, by decide⟩
  | true => rw [hg, sub_tb h hg] at hb; exact absurd hb (by decide)
theorem tb_xor {m g : Nat} {i : Nat} (hm : m.testBit i = true) (hg : ¬ g.testBit i = true) : (m ^^^ g).testBit i = true := by
  rw [Nat.testBit_xor, hm]
  cases h : g.testBit i with
  | false => rfl
  | true => exact absurd h hg
/-- the sum over the bits of a set -/
def sA (c m : Nat) (φ : Nat → Int) : Int := sU (fun b => if m.testBit b = true then φ b else 0) c
theorem sA_e {c m : Nat} {φ ψ : Nat → Int} (h : ∀ b, m.testBit b = true → φ b = ψ b) : sA c m φ = sA c m ψ := sU_e c (fun b _ => by
  show (if m.testBit b = true then φ b else 0) = (if m.testBit b = true then ψ b else 0)
  by_cases q : m.testBit b = true
  · rw [if_pos q, if_pos q, h b q]
  · rw [if_neg q, if_neg q])
theorem sA_z {c m : Nat} {φ : Nat → Int} (h : ∀ b, m.testBit b = true → φ b = 0) : sA c m φ = 0 := sU_z c (fun b _ => by
  show (if m.testBit b = true then φ b else 0) = 0
  by_cases q : m.testBit b = true
  · rw [if_pos q, h b q]
  · rw [if_neg q])
theorem sA_0 {c : Nat} {φ : Nat → Int} : sA c 0 φ = 0 := sA_z (fun b hb => by rw [Nat.zero_testBit] at hb; cases hb)
theorem sA_x {c m g : Nat} (φ : Nat → Int) (h : g &&& m = g) : sA c m φ = sA c g φ + sA c (m ^^^ g) φ := by
  unfold sA
  rw [← sU_add]
  refine sU_e c (fun i _ => ?_)
  show (if m.testBit i = true then φ i else 0) = (if g.testBit i = true then φ i else 0) + (if (m ^^^ g).testBit i = true then φ i else 0)
  by_cases hg : g.testBit i = true
  · rw [if_pos hg, if_pos (sub_tb h hg), if_neg (show ¬ (m ^^^ g).testBit i = true from fun q => (xor_tb h q).2 hg), Int.add_zero]
  · by_cases hm : m.testBit i = true
    · rw [if_neg hg, if_pos hm, if_pos (tb_xor hm hg), Int.zero_add]
    · rw [if_neg hg, if_neg hm, if_neg (show ¬ (m ^^^ g).testBit i = true from fun q => hm (xor_tb h q).1), Int.zero_add]
theorem sA_mul {c m : Nat} (k : Int) (φ : Nat → Int) : sA c m (fun b => k * φ b) = k * sA c m φ := by
  unfold sA
  rw [← sU_mul]
  refine sU_e c (fun i _ => ?_)
  show (if m.testBit i = true then k * φ i else 0) = k * (if m.testBit i = true then φ i else 0)
  by_cases q : m.testBit i = true
  · rw [if_pos q, if_pos q]
  · rw [if_neg q, if_neg q, Int.mul_zero]
theorem sA_nn {c m : Nat} {φ : Nat → Int} (h : ∀ b, b < c → 0 ≤ φ b) : 0 ≤ sA c m φ := sU_nn c (fun b hb => by
  show 0 ≤ (if m.testBit b = true then φ b else 0)
  by_cases q : m.testBit b = true
  · rw [if_pos q]; exact h b hb
  · rw [if_neg q]; exact Int.le_refl _)
theorem sA_K {c m : Nat} {φ : Nat → Int} {K : Int} (hK : 0 ≤ K) (h : ∀ b, b < c → φ b ≤ K) : sA c m φ ≤ K * (c : Int) := sU_K c (fun b hb => by
  show (if m.testBit b = true then φ b else 0) ≤ K
  by_cases q : m.testBit b = true
  · rw [if_pos q]; exact h b hb
  · rw [if_neg q]; exact hK)
/-- one bit more on top -/
theorem sA_p {c m b : Nat} {φ : Nat → Int} (hm : m < 2 ^ b) (hb : b < c) : sA c (m + 2 ^ b) φ = sA c m φ + φ b := by
  have t1 : ∀ i, (m + 2 ^ b).testBit i = true ↔ (m.testBit i = true ∨ i = b) := fun i => by
    have e9 := Nat.two_pow_add_eq_or_of_lt hm 1
    rw [Nat.mul_one] at e9
    rw [Nat.add_comm, e9, Nat.testBit_or, Nat.testBit_two_pow]
    simp only [Bool.or_eq_true, decide_eq_true_eq]
    exact ⟨fun q => q.elim (fun z => Or.inr z.symm) Or.inl, fun q => q.elim Or.inr (fun z => Or.inl z.symm)⟩
  have t2 : ¬ m.testBit b = true := fun q => absurd (tb_lt hm q) (Nat.lt_irrefl b)
  have e : sA c (m + 2 ^ b) φ = sA c m φ + sU (fun i => if i = b then φ i else 0) c := by
    unfold sA
    rw [← sU_add]
    refine sU_e c (fun i _ => ?_)
    show (if (m + 2 ^ b).testBit i = true then φ i else 0) = (if m.testBit i = true then φ i else 0) + (if i = b then φ i else 0)
    by_cases q : i = b
    · subst q
      rw [if_pos ((t1 i).mpr (Or.inr rfl)), if_neg t2, if_pos rfl, Int.zero_add]
    · rw [if_neg q, Int.add_zero]
      by_cases q2 : m.testBit i = true
      · rw [if_pos q2, if_pos ((t1 i).mpr (Or.inl q2))]
      · rw [if_neg q2, if_neg (fun z => ((t1 i).mp z).elim q2 q)]
  rw [e, sU_one, if_pos hb]
/-- the whole set -/
theorem sA_full {c : Nat} {φ : Nat → Int} : sA c (2 ^ c - 1) φ = sU φ c := sU_e c (fun b hb => by
  show (if (2 ^ c - 1).testBit b = true then φ b else 0) = φ b
  rw [if_pos (by rw [Nat.testBit_two_pow_sub_one]; exact decide_eq_true hb)])
def w5 (b : Nat) : Int := ((5 ^ b : Nat) : Int)
theorem w5_s (b : Nat) : w5 (b + 1) = w5 b * 5 := by
  show ((5 ^ (b + 1) : Nat) : Int) = ((5 ^ b : Nat) : Int) * 5
  rw [Nat.pow_succ]
  omega
theorem w5_bd {b : Nat} (h : b ≤ 7) : 1 ≤ w5 b ∧ w5 b ≤ 78125 := by
  have h1 : 1 ≤ 5 ^ b := Nat.one_le_pow _ _ (by decide)
  have h2 : 5 ^ b ≤ 5 ^ 7 := Nat.pow_le_pow_right (by decide) h
  have h3 : (5 : Nat) ^ 7 = 78125 := by decide
  unfold w5
  omega
/-! what a packing of the bits of a set is worth, the last j hills choosing -/
def gvb (c : Nat) (rb : Nat → Int) (m : Nat) (e : Nat → Nat) (k : Nat) : Int := sA c m (fun b => if e b = k then rb b else 0)
def pyb (c H : Nat) (rb hh pp : Nat → Int) (m : Nat) (e : Nat → Nat) (j : Nat) : Int := sU (fun i => if hh (H - 1 - i) ≤ gvb c rb m e (H - 1 - i) then pp (H - 1 - i) else 0) j
def vb (c H : Nat) (rb hh pp : Nat → Int) (m : Nat) (e : Nat → Nat) (j : Nat) : Int := 67108864 * pyb c H rb hh pp m e j - 131072 * sA c m (fun b => if e b = 4 then 0 else rb b) - sA c m (fun b => (e b : Int) * w5 b)
def okb (H j m : Nat) (e : Nat → Nat) : Prop := ∀ b, m.testBit b = true → e b = 4 ∨ (H - j ≤ e b ∧ e b < H)
def mxb (c H : Nat) (rb hh pp : Nat → Int) (j m : Nat) (v : Int) : Prop := (∃ e, okb H j m e ∧ vb c H rb hh pp m e j = v) ∧ ∀ e, okb H j m e → vb c H rb hh pp m e j ≤ v
def vlb (c : Nat) (rb hh pp : Nat → Int) (k g : Nat) : Int := 67108864 * (if hh k ≤ sA c g rb then pp k else 0) - 131072 * sA c g rb - (k : Int) * sA c g w5
section Pk
variable {c H : Nat} {rb hh pp : Nat → Int}
theorem gvb_e {m k : Nat} {e e' : Nat → Nat} (h : ∀ b, m.testBit b = true → e b = e' b) : gvb c rb m e k = gvb c rb m e' k := sA_e (fun b hb => by
  show (if e b = k then rb b else 0) = (if e' b = k then rb b else 0)
  rw [h b hb])
theorem vb_e {m j : Nat} {e e' : Nat → Nat} (h : ∀ b, m.testBit b = true → e b = e' b) : vb c H rb hh pp m e j = vb c H rb hh pp m e' j := by
  have a1 : pyb c H rb hh pp m e j = pyb c H rb hh pp m e' j := sU_e j (fun i _ => by
    show (if hh (H - 1 - i) ≤ gvb c rb m e (H - 1 - i) then pp (H - 1 - i) else 0) = (if hh (H - 1 - i) ≤ gvb c rb m e' (H - 1 - i) then pp (H - 1 - i) else 0)
    rw [gvb_e h])
  have a2 : sA c m (fun b => if e b = 4 then 0 else rb b) = sA c m (fun b => if e' b = 4 then 0 else rb b) := sA_e (fun b hb => by
    show (if e b = 4 then 0 else rb b) = (if e' b = 4 then 0 else rb b)
    rw [h b hb])
  have a3 : sA c m (fun b => (e b : Int) * w5 b) = sA c m (fun b => (e' b : Int) * w5 b) := sA_e (fun b hb => congrArg (fun x : Nat => (x : Int) * w5 b) (h b hb))
  unfold vb
  rw [a1, a2, a3]
theorem vb_0 {m : Nat} {e : Nat → Nat} (h : okb H 0 m e) : vb c H rb hh pp m e 0 = -4 * sA c m w5 := by
  have f : ∀ b, m.testBit b = true → e b = 4 := fun b hb => by
    rcases h b hb with q | q
    · exact q
    · omega
  have a1 : sA c m (fun b => if e b = 4 then 0 else rb b) = 0 := sA_z (fun b hb => if_pos (f b hb))
  have a2 : sA c m (fun b => (e b : Int) * w5 b) = 4 * sA c m w5 := by
    rw [← sA_mul]
    exact sA_e (fun b hb => congrArg (fun x : Nat => (x : Int) * w5 b) (f b hb))
  have a0 : pyb c H rb hh pp m e 0 = 0 := rfl
  unfold vb
  rw [a0, a1, a2]
  omega
theorem mxb_0 {m : Nat} : mxb c H rb hh pp 0 m (-4 * sA c m w5) := ⟨⟨fun _ => 4, fun _ _ => Or.inl rfl, vb_0 (fun _ _ => Or.inl rfl)⟩, fun _ he => Int.le_of_eq (vb_0 he)⟩
/-- hill k = H - 1 - j takes the bits of g -/
theorem vb_x {m g j : Nat} {e : Nat → Nat} (hj : j < H) (h4 : H ≤ 4) (hg : g &&& m = g) (h1 : ∀ b, g.testBit b = true → e b = H - 1 - j) (h2 : ∀ b, (m ^^^ g).testBit b = true → e b ≠ H - 1 - j) : vb c H rb hh pp m e (j + 1) = vlb c rb hh pp (H - 1 - j) g + vb c H rb hh pp (m ^^^ g) e j := by
  have a1 : sA c m (fun b => if e b = 4 then 0 else rb b) = sA c g rb + sA c (m ^^^ g) (fun b => if e b = 4 then 0 else rb b) := by
    rw [sA_x _ hg]
    have : sA c g (fun b => if e b = 4 then 0 else rb b) = sA c g rb := sA_e (fun b hb => if_neg (by rw [h1 b hb]; omega))
    rw [this]
  have a2 : sA c m (fun b => (e b : Int) * w5 b) = ((H - 1 - j : Nat) : Int) * sA c g w5 + sA c (m ^^^ g) (fun b => (e b : Int) * w5 b) := by
    rw [sA_x _ hg, ← sA_mul]
    have : sA c g (fun b => (e b : Int) * w5 b) = sA c g (fun b => ((H - 1 - j : Nat) : Int) * w5 b) := sA_e (fun b hb => congrArg (fun x : Nat => (x : Int) * w5 b) (h1 b hb))
    rw [this]
  have a3 : gvb c rb m e (H - 1 - j) = sA c g rb := by
    unfold gvb
    rw [sA_x _ hg]
    have q1 : sA c g (fun b => if e b = H - 1 - j then rb b else 0) = sA c g rb := sA_e (fun b hb => if_pos (h1 b hb))
    have q2 : sA c (m ^^^ g) (fun b => if e b = H - 1 - j then rb b else 0) = 0 := sA_z (fun b hb => if_neg (h2 b hb))
    rw [q1, q2, Int.add_zero]
  have a4 : pyb c H rb hh pp m e j = pyb c H rb hh pp (m ^^^ g) e j := sU_e j (fun i hi => by
    have q : gvb c rb m e (H - 1 - i) = gvb c rb (m ^^^ g) e (H - 1 - i) := by
      unfold gvb
      rw [sA_x _ hg]
      have q1 : sA c g (fun b => if e b = H - 1 - i then rb b else 0) = 0 := sA_z (fun b hb => if_neg (by rw [h1 b hb]; omega))
      rw [q1, Int.zero_add]
    show (if hh (H - 1 - i) ≤ gvb c rb m e (H - 1 - i) then pp (H - 1 - i) else 0) = (if hh (H - 1 - i) ≤ gvb c rb (m ^^^ g) e (H - 1 - i) then pp (H - 1 - i) else 0)
    rw [q])
  have a5 : pyb c H rb hh pp m e (j + 1) = pyb c H rb hh pp m e j + (if hh (H - 1 - j) ≤ gvb c rb m e (H - 1 - j) then pp (H - 1 - j) else 0) := rfl
  unfold vb vlb
  rw [a5, a3, a4, a1, a2]
  generalize (if hh (H - 1 - j) ≤ sA c g rb then pp (H - 1 - j) else 0) = z
  generalize ((H - 1 - j : Nat) : Int) * sA c g w5 = z2
  omega
theorem vlb_0 {k : Nat} (h : 1 ≤ hh k) : vlb c rb hh pp k 0 = 0 := by
  unfold vlb
  rw [sA_0, sA_0, if_neg (by omega), Int.mul_zero]
  rfl
theorem mxb_s {m j : Nat} {M : Int} (hj : j < H) (h4 : H ≤ 4) (hm : m < 2 ^ c)
    (hB : ∀ g, g &&& m = g → ∃ v, mxb c H rb hh pp j (m ^^^ g) v ∧ vlb c rb hh pp (H - 1 - j) g + v ≤ M)
    (hM : ∃ g v, g &&& m = g ∧ mxb c H rb hh pp j (m ^^^ g) v ∧ M = vlb c rb hh pp (H - 1 - j) g + v) : mxb c H rb hh pp (j + 1) m M := by
  constructor
  · obtain ⟨g, v, hg, ⟨⟨e, he, hv⟩, -⟩, rfl⟩ := hM
    have gk : ∀ b, g.testBit b = true → (if g.testBit b = true then H - 1 - j else e b) = H - 1 - j := fun b hb => if_pos hb
    have nk : ∀ b, (m ^^^ g).testBit b = true → (if g.testBit b = true then H - 1 - j else e b) = e b := fun b hb => if_neg (xor_tb hg hb).2
    refine ⟨fun b => if g.testBit b = true then H - 1 - j else e b, fun b hb => ?_, ?_⟩
    · show (if g.testBit b = true then H - 1 - j else e b) = 4 ∨ (H - (j + 1) ≤ (if g.testBit b = true then H - 1 - j else e b) ∧ (if g.testBit b = true then H - 1 - j else e b) < H)
      by_cases q : g.testBit b = true
      · rw [if_pos q]
        exact Or.inr ⟨by omega, by omega⟩
      · rw [if_neg q]
        rcases he b (tb_xor hb q) with z | z
        · exact Or.inl z
        · exact Or.inr ⟨by omega, z.2⟩
    · rw [vb_x hj h4 hg gk (fun b hb => by
        show (if g.testBit b = true then H - 1 - j else e b) ≠ H - 1 - j
        rw [nk b hb]
        rcases he b hb with z | z
        · rw [z]; omega
        · omega), vb_e nk, hv]
  · intro e he
    have tg : ∀ b, (bset (fun b => m.testBit b && decide (e b = H - 1 - j)) c).testBit b = true ↔ (m.testBit b = true ∧ e b = H - 1 - j) := fun b => by
      rw [bset_tb]
      simp only [Bool.and_eq_true, decide_eq_true_eq]
      exact ⟨fun q => q.2, fun q => ⟨tb_lt hm q.1, q⟩⟩
    generalize bset (fun b => m.testBit b && decide (e b = H - 1 - j)) c = g at tg
    have hg : g &&& m = g := tb_sub (fun b hb => ((tg b).mp hb).1)
    obtain ⟨v, hv, hle⟩ := hB g hg
    have n2 : ∀ b, (m ^^^ g).testBit b = true → e b ≠ H - 1 - j := fun b hb q => (xor_tb hg hb).2 ((tg b).mpr ⟨(xor_tb hg hb).1, q⟩)
    have hx := vb_x (e := e) (c := c) (rb := rb) (hh := hh) (pp := pp) hj h4 hg (fun b hb => ((tg b).mp hb).2) n2
    have hu := hv.2 e (fun b hb => by
      have q := n2 b hb
      rcases he b (xor_tb hg hb).1 with z | z
      · exact Or.inl z
      · exact Or.inr ⟨by omega, z.2⟩)
    omega
/-- how great the best can be -/
theorem vb_bd {m j : Nat} {e : Nat → Nat} (hc : c ≤ 7) (hj : j ≤ H) (h4 : H ≤ 4) (hr : ∀ b, b < c → 0 ≤ rb b ∧ rb b ≤ 40) (hp : ∀ k, k < H → 0 ≤ pp k ∧ pp k ≤ 99) (he : okb H j m e) : -40000000000 ≤ vb c H rb hh pp m e j ∧ vb c H rb hh pp m e j ≤ 40000000000 := by
  have p1 : 0 ≤ pyb c H rb hh pp m e j := sU_nn j (fun i hi => by
    have := (hp (H - 1 - i) (by omega)).1
    show 0 ≤ (if hh (H - 1 - i) ≤ gvb c rb m e (H - 1 - i) then pp (H - 1 - i) else 0)
    split <;> omega)
  have p2 : pyb c H rb hh pp m e j ≤ 99 * (j : Int) := sU_K j (fun i hi => by
    have := (hp (H - 1 - i) (by omega)).2
    show (if hh (H - 1 - i) ≤ gvb c rb m e (H - 1 - i) then pp (H - 1 - i) else 0) ≤ 99
    split <;> omega)
  have r1 : 0 ≤ sA c m (fun b => if e b = 4 then 0 else rb b) := sA_nn (fun b hb => by
    have := (hr b hb).1
    show 0 ≤ (if e b = 4 then 0 else rb b)
    split <;> omega)
  have r2 : sA c m (fun b => if e b = 4 then 0 else rb b) ≤ 40 * (c : Int) := sA_K (by decide) (fun b hb => by
    have := (hr b hb).2
    show (if e b = 4 then 0 else rb b) ≤ 40
    split <;> omega)
  have ev : sA c m (fun b => (e b : Int) * w5 b) = sA c m (fun b => if m.testBit b = true then (e b : Int) * w5 b else 0) := sA_e (fun b hb => (if_pos hb).symm)
  have w1 : 0 ≤ sA c m (fun b => (e b : Int) * w5 b) := sA_nn (fun b hb => Int.mul_nonneg (by omega) (by have := (w5_bd (b := b) (by omega)).1; omega))
  have w2 : sA c m (fun b => if m.testBit b = true then (e b : Int) * w5 b else 0) ≤ 312500 * (c : Int) := sA_K (by decide) (fun b hb => by
    show (if m.testBit b = true then (e b : Int) * w5 b else 0) ≤ 312500
    by_cases q : m.testBit b = true
    · rw [if_pos q]
      have b5 := w5_bd (b := b) (by omega)
      have e4 : e b ≤ 4 := by
        rcases he b q with z | z <;> omega
      have h1 : (e b : Int) * w5 b ≤ 4 * w5 b := Int.mul_le_mul_of_nonneg_right (by omega) (by omega)
      omega
    · rw [if_neg q]; decide)
  rw [← ev] at w2
  unfold vb
  omega
theorem mxb_bd {m j : Nat} {v : Int} (hc : c ≤ 7) (hj : j ≤ H) (h4 : H ≤ 4) (hr : ∀ b, b < c → 0 ≤ rb b ∧ rb b ≤ 40) (hp : ∀ k, k < H → 0 ≤ pp k ∧ pp k ≤ 99) (h : mxb c H rb hh pp j m v) : -40000000000 ≤ v ∧ v ≤ 40000000000 := by
  obtain ⟨⟨e, he, rfl⟩, -⟩ := h
  exact vb_bd hc hj h4 hr hp he
end Pk
/-! packings of flights -/
def gvd (F : Nat) (r : Nat → Int) (d : Nat → Nat) (h : Nat) : Int := sU (fun f => if d f = h then r f else 0) F
def rsd (F : Nat) (r : Nat → Int) (d : Nat → Nat) : Int := sU (fun f => if d f = 4 then 0 else r f) F
def pyd (F H : Nat) (r hh pp : Nat → Int) (d : Nat → Nat) : Int := sU (fun h => if hh h ≤ gvd F r d h then pp h else 0) H
/-- the row as a number of base 5 -/
def wtd (G : Nat) (d : Nat → Nat) : Nat → Int
  | 0 => 0
  | f + 1 => if G.testBit f = true then 5 * wtd G d f + (d f : Int) else wtd G d f
def vld (F H : Nat) (r hh pp : Nat → Int) (G : Nat) (d : Nat → Nat) : Int := 67108864 * pyd F H r hh pp d - 131072 * rsd F r d - wtd G d F
def okd (F H G : Nat) (d : Nat → Nat) : Prop := ∀ f, f < F → (d f = 4 ∨ (d f < H ∧ G.testBit f = true))
/-- each hill that gets some gets enough -/
def gdd (F H : Nat) (r hh : Nat → Int) (G : Nat) (d : Nat → Nat) : Prop := okd F H G d ∧ ∀ f, f < F → d f ≠ 4 → hh (d f) ≤ gvd F r d (d f)
theorem wtd_y {G f : Nat} {d : Nat → Nat} (h : G.testBit f = true) : wtd G d (f + 1) = 5 * wtd G d f + (d f : Int) := if_pos h
theorem wtd_n {G f : Nat} {d : Nat → Nat} (h : ¬ G.testBit f = true) : wtd G d (f + 1) = wtd G d f := if_neg h
theorem wtd_e {G : Nat} {a b : Nat → Nat} : ∀ n, (∀ i, i < n → G.testBit i = true → a i = b i) → wtd G a n = wtd G b n
  | 0, _ => rfl
  | n + 1, h => by
    have ih := wtd_e (a := a) (b := b) n (fun i hi => h i (by omega))
    by_cases q : G.testBit n = true
    · rw [wtd_y q, wtd_y q, ih, h n (by omega) q]
    · rw [wtd_n q, wtd_n q, ih]
theorem cnB_y {p : Nat → Bool} {k : Nat} (h : p k = true) : cnB p (k + 1) = cnB p k + 1 := by
  have e : cnB p (k + 1) = cnB p k + (if p k = true then 1 else 0) := rfl
  rw [e, if_pos h]
theorem cnB_n {p : Nat → Bool} {k : Nat} (h : ¬ p k = true) : cnB p (k + 1) = cnB p k := by
  have e : cnB p (k + 1) = cnB p k + (if p k = true then 1 else 0) := rfl
  rw [e, if_neg h, Nat.add_zero]
theorem cnB_mono {p : Nat → Bool} {n : Nat} : ∀ d, cnB p n ≤ cnB p (n + d)
  | 0 => Nat.le_refl _
  | d + 1 => by
    have h := cnB_mono (p := p) (n := n) d
    rw [show n + (d + 1) = n + d + 1 from rfl]
    by_cases q : p (n + d) = true
    · rw [cnB_y q]; omega
    · rw [cnB_n q]; exact h
theorem cnB_mn {p : Nat → Bool} {a b : Nat} (h : a ≤ b) : cnB p a ≤ cnB p b := by
  have := cnB_mono (p := p) (n := a) (b - a)
  rw [show a + (b - a) = b from by omega] at this
  exact this
theorem cnB_lt {p : Nat → Bool} {a b : Nat} (h : a < b) (ha : p a = true) : cnB p a < cnB p b := by
  have := cnB_mn (p := p) (show a + 1 ≤ b from h)
  rw [cnB_y ha] at this
  omega
theorem cnB_inj {p : Nat → Bool} {a b : Nat} (ha : p a = true) (hb : p b = true) (h : cnB p a = cnB p b) : a = b := by
  rcases Nat.lt_trichotomy a b with q | q | q
  · have := cnB_lt q ha; omega
  · exact q
  · have := cnB_lt q hb; omega
theorem cnB_sur {p : Nat → Bool} : ∀ n i, i < cnB p n → ∃ f, f < n ∧ p f = true ∧ cnB p f = i
  | 0, i, h => absurd h (Nat.not_lt_zero i)
  | n + 1, i, h => by
    by_cases q : p n = true
    · rw [cnB_y q] at h
      by_cases e : i = cnB p n
      · exact ⟨n, by omega, q, e.symm⟩
      · obtain ⟨f, h1, h2⟩ := cnB_sur (p := p) n i (by omega)
        exact ⟨f, by omega, h2⟩
    · rw [cnB_n q] at h
      obtain ⟨f, h1, h2⟩ := cnB_sur (p := p) n i h
      exact ⟨f, by omega, h2⟩
section Pf
variable {F H G : Nat} {r hh pp : Nat → Int} {d : Nat → Nat}
theorem wtd_bd (hd : ∀ f, f < F → d f ≤ 4) : ∀ n, n ≤ F → 0 ≤ wtd G d n ∧ wtd G d n + 1 ≤ w5 (cnB (fun f => G.testBit f) n)
  | 0, _ => ⟨Int.le_refl _, Int.le_refl _⟩
  | n + 1, hn => by
    have h := wtd_bd hd n (by omega)
    have h4 := hd n (by omega)
    by_cases q : G.testBit n = true
    · rw [wtd_y q, cnB_y (p := fun f => G.testBit f) q, w5_s]
      omega
    · rw [wtd_n q, cnB_n (p := fun f => G.testBit f) q]
      exact h
theorem okd_4 (h : okd F H G d) (h4 : H ≤ 4) : ∀ f, f < F → d f ≤ 4 := fun f hf => by
  rcases h f hf with q | q <;> omega
theorem rsd_bd (hr : ∀ f, f < F → 1 ≤ r f ∧ r f ≤ 40) (h : okd F H G d) (h4 : H ≤ 4) : ∀ n, n ≤ F → 0 ≤ sU (fun f => if d f = 4 then 0 else r f) n ∧ sU (fun f => if d f = 4 then 0 else r f) n ≤ 40 * ((cnB (fun f => G.testBit f) n : Nat) : Int)
  | 0, _ => ⟨Int.le_refl _, Int.le_refl _⟩
  | n + 1, hn => by
    have ih := rsd_bd hr h h4 n (by omega)
    have b := hr n (by omega)
    have e : sU (fun f => if d f = 4 then 0 else r f) (n + 1) = sU (fun f => if d f = 4 then 0 else r f) n + (if d n = 4 then 0 else r n) := rfl
    rw [e]
    by_cases q : G.testBit n = true
    · rw [cnB_y (p := fun f => G.testBit f) q]
      split <;> omega
    · rw [cnB_n (p := fun f => G.testBit f) q]
      have z : d n = 4 := by
        rcases h n (by omega) with z | z
        · exact z
        · exact absurd z.2 q
      rw [if_pos z]
      omega
theorem pyd_bd (h4 : H ≤ 4) (hp : ∀ k, k < H → 0 ≤ pp k ∧ pp k ≤ 99) : 0 ≤ pyd F H r hh pp d ∧ pyd F H r hh pp d ≤ 396 := by
  have p1 : 0 ≤ pyd F H r hh pp d := sU_nn H (fun i hi => by
    have := (hp i hi).1
    show 0 ≤ (if hh i ≤ gvd F r d i then pp i else 0)
    split <;> omega)
  have p2 : pyd F H r hh pp d ≤ 99 * (H : Int) := sU_K H (fun i hi => by
    have := (hp i hi).2
    show (if hh i ≤ gvd F r d i then pp i else 0) ≤ 99
    split <;> omega)
  omega
/-- pay, rise and row are told apart in the value -/
theorem vld_bd (hr : ∀ f, f < F → 1 ≤ r f ∧ r f ≤ 40) (h : okd F H G d) (h4 : H ≤ 4) (h7 : cnB (fun f => G.testBit f) F ≤ 7) : 0 ≤ rsd F r d ∧ rsd F r d ≤ 280 ∧ 0 ≤ wtd G d F ∧ wtd G d F ≤ 78124 := by
  have a := rsd_bd hr h h4 F (Nat.le_refl _)
  have b := wtd_bd (G := G) (okd_4 h h4) F (Nat.le_refl _)
  have b5 := w5_bd h7
  have e : rsd F r d = sU (fun f => if d f = 4 then 0 else r f) F := rfl
  rw [e]
  omega
theorem gvd_nn (hr : ∀ f, f < F → 1 ≤ r f ∧ r f ≤ 40) {h : Nat} : 0 ≤ gvd F r d h := sU_nn F (fun f hf => by
  have := (hr f hf).1
  show 0 ≤ (if d f = h then r f else 0)
  split <;> omega)
theorem gvd_in (hr : ∀ f, f < F → 1 ≤ r f ∧ r f ≤ 40) {f : Nat} (hf : f < F) : 1 ≤ gvd F r d (d f) := by
  have b := sU_mem (φ := fun i => if d i = d f then r i else 0) F f hf (fun j hj => by
    have := (hr j hj).1
    show 0 ≤ (if d j = d f then r j else 0)
    split <;> omega)
  rw [if_pos rfl] at b
  have := (hr f hf).1
  unfold gvd
  omega
theorem gvd_out (hr : ∀ f, f < F → 1 ≤ r f ∧ r f ≤ 40) {h : Nat} (q : 0 < gvd F r d h) : ∃ f, f < F ∧ d f = h := by
  obtain ⟨f, hf, hp⟩ := sU_pos F q
  have hp : 0 < (if d f = h then r f else 0) := hp
  refine ⟨f, hf, Classical.byContradiction fun c => ?_⟩
  rw [if_neg c] at hp
  exact absurd hp (by decide)
/-- some packing in which each hill that gets some gets enough is as good -/
theorem gd_ex (hr : ∀ f, f < F → 1 ≤ r f ∧ r f ≤ 40) (h4 : H ≤ 4) (h7 : cnB (fun f => G.testBit f) F ≤ 7) (hh1 : ∀ k, k < H → 1 ≤ hh k) (h : okd F H G d) : ∃ d', gdd F H r hh G d' ∧ vld F H r hh pp G d ≤ vld F H r hh pp G d' := by
  by_cases c : ∃ f0, f0 < F ∧ d f0 ≠ 4 ∧ gvd F r d (d f0) < hh (d f0)
  rotate_left
  · exact ⟨d, ⟨h, fun f hf hn => Classical.byContradiction fun q => c ⟨f, hf, hn, by omega⟩⟩, Int.le_refl _⟩
  obtain ⟨f0, hf0, hn0, hl0⟩ := c
  have dd : ∃ d' : Nat → Nat, ∀ f, (d f ≠ 4 ∧ gvd F r d (d f) < hh (d f) → d' f = 4) ∧ (¬ (d f ≠ 4 ∧ gvd F r d (d f) < hh (d f)) → d' f = d f) := ⟨fun f => if d f ≠ 4 ∧ gvd F r d (d f) < hh (d f) then 4 else d f, fun f => ⟨fun q => if_pos q, fun q => if_neg q⟩⟩
  obtain ⟨d', hd'⟩ := dd
  have ok : okd F H G d' := fun f hf => by
    by_cases q : d f ≠ 4 ∧ gvd F r d (d f) < hh (d f)
    · exact Or.inl ((hd' f).1 q)
    · rw [(hd' f).2 q]; exact h f hf
  -- what a hill with enough gets is the same
  have g1 : ∀ k, k ≠ 4 → hh k ≤ gvd F r d k → gvd F r d' k = gvd F r d k := fun k k4 hk => sU_e F (fun f _ => by
    show (if d' f = k then r f else 0) = (if d f = k then r f else 0)
    by_cases q : d f ≠ 4 ∧ gvd F r d (d f) < hh (d f)
    · rw [(hd' f).1 q, if_neg (show ¬ 4 = k from fun z => k4 z.symm), if_neg (show ¬ d f = k from fun z => by rw [z] at q; omega)]
    · rw [(hd' f).2 q])
  have g2 : ∀ k, k ≠ 4 → gvd F r d k < hh k → gvd F r d' k = 0 := fun k k4 hk => sU_z F (fun f _ => by
    show (if d' f = k then r f else 0) = 0
    by_cases q : d f ≠ 4 ∧ gvd F r d (d f) < hh (d f)
    · rw [(hd' f).1 q, if_neg (show ¬ 4 = k from fun z => k4 z.symm)]
    · rw [(hd' f).2 q]
      refine if_neg (fun z => q ⟨by rw [z]; exact k4, by rw [z]; exact hk⟩))
  have ep : pyd F H r hh pp d' = pyd F H r hh pp d := sU_e H (fun k hk => by
    show (if hh k ≤ gvd F r d' k then pp k else 0) = (if hh k ≤ gvd F r d k then pp k else 0)
    by_cases q : hh k ≤ gvd F r d k
    · rw [g1 k (by omega) q]
    · rw [g2 k (by omega) (by omega), if_neg q, if_neg (by have := hh1 k hk; omega)])
  have er : rsd F r d' + 1 ≤ rsd F r d := by
    have e1 : sU (fun f => (if d' f = 4 then 0 else r f) + (if f = f0 then 1 else 0)) F ≤ sU (fun f => if d f = 4 then 0 else r f) F := sU_le F (fun f hf => by
      have b := hr f hf
      show (if d' f = 4 then 0 else r f) + (if f = f0 then 1 else 0) ≤ (if d f = 4 then 0 else r f)
      by_cases q : d f ≠ 4 ∧ gvd F r d (d f) < hh (d f)
      · rw [(hd' f).1 q, if_pos rfl, if_neg q.1]
        split <;> omega
      · rw [(hd' f).2 q]
        have : f ≠ f0 := fun z => q (by rw [z]; exact ⟨hn0, hl0⟩)
        rw [if_neg this, Int.add_zero]
        exact Int.le_refl _)
    rw [sU_add, sU_one (φ := fun _ => 1), if_pos hf0] at e1
    unfold rsd
    exact e1
  have b1 := vld_bd (r := r) hr h h4 h7
  have b2 := vld_bd (r := r) hr ok h4 h7
  refine ⟨d', ⟨ok, fun f hf hn => ?_⟩, ?_⟩
  · by_cases q : d f ≠ 4 ∧ gvd F r d (d f) < hh (d f)
    · exact absurd ((hd' f).1 q) hn
    · rw [(hd' f).2 q] at hn ⊢
      rw [g1 _ hn (by omega)]
      omega
  · unfold vld
    rw [ep]
    omega
/-! rows, one before the other -/
def lxd (f F : Nat) (a b : Nat → Nat) : Prop := (∀ i, f ≤ i → i < F → a i = b i) ∨ ∃ j, f ≤ j ∧ j < F ∧ (∀ i, f ≤ i → i < j → a i = b i) ∧ a j < b j
theorem wtd_lt {a b : Nat → Nat} (ha : okd F H G a) (hb : okd F H G b) (h4 : H ≤ 4) {j : Nat} (hj : j < F) (he : ∀ i, i < j → a i = b i) (hl : a j < b j) : wtd G a F < wtd G b F := by
  have bb := okd_4 hb h4
  have ab := okd_4 ha h4
  have hg : G.testBit j = true := by
    rcases ha j hj with q | q
    · have := bb j hj; omega
    · exact q.2
  have go : ∀ k, j + 1 + k ≤ F → wtd G a (j + 1 + k) < wtd G b (j + 1 + k) := by
    intro k
    induction k with
    | zero =>
      intro _
      rw [show j + 1 + 0 = j + 1 from rfl, wtd_y hg, wtd_y hg, wtd_e j (fun i hi _ => he i hi)]
      omega
    | succ k ih =>
      intro hk
      have h := ih (by omega)
      rw [show j + 1 + (k + 1) = j + 1 + k + 1 from rfl]
      have a4 := ab (j + 1 + k) (by omega)
      by_cases q : G.testBit (j + 1 + k) = true
      · rw [wtd_y q, wtd_y q]; omega
      · rw [wtd_n q, wtd_n q]; exact h
  have := go (F - (j + 1)) (by omega)
  rw [show j + 1 + (F - (j + 1)) = F from by omega] at this
  exact this
theorem wtd_lx {a b : Nat → Nat} (ha : okd F H G a) (hb : okd F H G b) (h4 : H ≤ 4) (h : lxd 0 F a b) : wtd G a F ≤ wtd G b F := by
  rcases h with h | ⟨j, -, hj, he, hl⟩
  · rw [wtd_e F (fun i hi _ => h i (Nat.zero_le _) hi)]
    exact Int.le_refl _
  · exact Int.le_of_lt (wtd_lt ha hb h4 hj (fun i hi => he i (Nat.zero_le _) hi) hl)
theorem wtd_inj {a b : Nat → Nat} (ha : okd F H G a) (hb : okd F H G b) (h4 : H ≤ 4) : ∀ n, n ≤ F → wtd G a n = wtd G b n → ∀ i, i < n → a i = b i
  | 0, _, _, i, hi => absurd hi (Nat.not_lt_zero i)
  | n + 1, hn, he, i, hi => by
    have a4 := okd_4 ha h4 n (by omega)
    have b4 := okd_4 hb h4 n (by omega)
    by_cases q : G.testBit n = true
    · rw [wtd_y q, wtd_y q] at he
      by_cases c : i = n
      · rw [c]; omega
      · exact wtd_inj ha hb h4 n (by omega) (by omega) i (by omega)
    · rw [wtd_n q, wtd_n q] at he
      by_cases c : i = n
      · rw [c]
        rcases ha n (by omega) with z | z
        · rcases hb n (by omega) with z2 | z2
          · rw [z, z2]
          · exact absurd z2.2 q
        · exact absurd z.2 q
      · exact wtd_inj ha hb h4 n (by omega) he i (by omega)
/-! from flights to places: bit b is the flight packed at c - 1 - b -/
theorem sU_pk {pk : Nat → Nat} {φ : Nat → Int} (hp : ∀ f, f < F → G.testBit f = true → pk (cnB (fun f => G.testBit f) f) = f) : ∀ n, n ≤ F → sU (fun i => φ (pk i)) (cnB (fun f => G.testBit f) n) = sU (fun f => if G.testBit f = true then φ f else 0) n
  | 0, _ => rfl
  | n + 1, hn => by
    have h := sU_pk (φ := φ) hp n (by omega)
    have e : sU (fun f => if G.testBit f = true then φ f else 0) (n + 1) = sU (fun f => if G.testBit f = true then φ f else 0) n + (if G.testBit n = true then φ n else 0) := rfl
    have e9 : sU (fun i => φ (pk i)) (cnB (fun f => G.testBit f) n + 1) = sU (fun i => φ (pk i)) (cnB (fun f => G.testBit f) n) + φ (pk (cnB (fun f => G.testBit f) n)) := rfl
    rw [e, ← h]
    by_cases q : G.testBit n = true
    · rw [cnB_y (p := fun f => G.testBit f) q, if_pos q, e9, hp n (by omega) q]
    · rw [cnB_n (p := fun f => G.testBit f) q, if_neg q, Int.add_zero]
/-- the row by places -/
def hpw (a : Nat → Nat) : Nat → Int
  | 0 => 0
  | n + 1 => 5 * hpw a n + (a n : Int)
theorem wtd_hp {pk : Nat → Nat} (hp : ∀ f, f < F → G.testBit f = true → pk (cnB (fun f => G.testBit f) f) = f) : ∀ n, n ≤ F → wtd G d n = hpw (fun i => d (pk i)) (cnB (fun f => G.testBit f) n)
  | 0, _ => rfl
  | n + 1, hn => by
    have h := wtd_hp hp n (by omega)
    by_cases q : G.testBit n = true
    · have e : hpw (fun i => d (pk i)) (cnB (fun f => G.testBit f) n + 1) = 5 * hpw (fun i => d (pk i)) (cnB (fun f => G.testBit f) n) + ((d (pk (cnB (fun f => G.testBit f) n)) : Nat) : Int) := rfl
      rw [wtd_y q, cnB_y (p := fun f => G.testBit f) q, e, hp n (by omega) q, h]
    · rw [wtd_n q, cnB_n (p := fun f => G.testBit f) q, h]
theorem hpw_sm (a : Nat → Nat) : ∀ n, hpw a n = sU (fun i => (a i : Int) * w5 (n - 1 - i)) n
  | 0 => rfl
  | n + 1 => by
    have h := hpw_sm a n
    have e : hpw a (n + 1) = 5 * hpw a n + (a n : Int) := rfl
    have e2 : sU (fun i => (a i : Int) * w5 (n + 1 - 1 - i)) n = 5 * sU (fun i => (a i : Int) * w5 (n - 1 - i)) n := by
      rw [← sU_mul]
      refine sU_e n (fun i hi => ?_)
      show (a i : Int) * w5 (n + 1 - 1 - i) = 5 * ((a i : Int) * w5 (n - 1 - i))
      rw [show n + 1 - 1 - i = n - 1 - i + 1 from by omega, w5_s, ← Int.mul_assoc, Int.mul_comm]
    have e3 : (a n : Int) * w5 (n + 1 - 1 - n) = (a n : Int) := by
      rw [show n + 1 - 1 - n = 0 from by omega]
      exact Int.mul_one _
    rw [e, sU_s, e2, e3, ← h]
theorem hpw_e {a b : Nat → Nat} : ∀ n, (∀ i, i < n → a i = b i) → hpw a n = hpw b n
  | 0, _ => rfl
  | n + 1, h => by
    have e : ∀ a : Nat → Nat, hpw a (n + 1) = 5 * hpw a n + (a n : Int) := fun _ => rfl
    rw [e, e, hpw_e n (fun i hi => h i (by omega)), h n (by omega)]
/-- the value, over the places -/
theorem vld_vb {c : Nat} {pk : Nat → Nat} (hc : c = cnB (fun f => G.testBit f) F) (h4 : H ≤ 4) (hp : ∀ f, f < F → G.testBit f = true → pk (cnB (fun f => G.testBit f) f) = f) (hd : okd F H G d) :
    vld F H r hh pp G d = vb c H (fun b => r (pk (c - 1 - b))) hh pp (2 ^ c - 1) (fun b => d (pk (c - 1 - b))) H := by
  have key : ∀ ψ : Nat → Int, (∀ f, f < F → ¬ G.testBit f = true → ψ f = 0) → sA c (2 ^ c - 1) (fun b => ψ (pk (c - 1 - b))) = sU ψ F := fun ψ h0 => by
    rw [sA_full, sU_rev (fun i => ψ (pk i)), hc, sU_pk hp F (Nat.le_refl _)]
    refine sU_e F (fun f hf => ?_)
    show (if G.testBit f = true then ψ f else 0) = ψ f
    by_cases q : G.testBit f = true
    · rw [if_pos q]
    · rw [if_neg q, h0 f hf q]
  have d4 : ∀ f, f < F → ¬ G.testBit f = true → d f = 4 := fun f hf q => by
    rcases hd f hf with z | z
    · exact z
    · exact absurd z.2 q
  have a1 : ∀ k, k < 4 → gvb c (fun b => r (pk (c - 1 - b))) (2 ^ c - 1) (fun b => d (pk (c - 1 - b))) k = gvd F r d k := fun k hk => key (fun f => if d f = k then r f else 0) (fun f hf q => if_neg (by rw [d4 f hf q]; omega))
  have a2 : sA c (2 ^ c - 1) (fun b => if d (pk (c - 1 - b)) = 4 then 0 else r (pk (c - 1 - b))) = rsd F r d := key (fun f => if d f = 4 then 0 else r f) (fun f hf q => if_pos (d4 f hf q))
  have a3 : sA c (2 ^ c - 1) (fun b => ((d (pk (c - 1 - b)) : Nat) : Int) * w5 b) = wtd G d F := by
    have e1 : wtd G d F = hpw (fun i => d (pk i)) c := by rw [hc]; exact wtd_hp hp F (Nat.le_refl _)
    have e2 : sU (fun b => (fun i => ((d (pk i) : Nat) : Int) * w5 (c - 1 - i)) (c - 1 - b)) c = sU (fun i => ((d (pk i) : Nat) : Int) * w5 (c - 1 - i)) c := sU_rev (fun i => ((d (pk i) : Nat) : Int) * w5 (c - 1 - i)) c
    rw [sA_full, e1, hpw_sm, ← e2]
    refine sU_e _ (fun b hb => ?_)
    show ((d (pk (c - 1 - b)) : Nat) : Int) * w5 b = ((d (pk (c - 1 - b)) : Nat) : Int) * w5 (c - 1 - (c - 1 - b))
    rw [show c - 1 - (c - 1 - b) = b from by omega]
  have a4 : pyb c H (fun b => r (pk (c - 1 - b))) hh pp (2 ^ c - 1) (fun b => d (pk (c - 1 - b))) H = pyd F H r hh pp d := by
    have e2 : sU (fun i => (fun h => if hh h ≤ gvd F r d h then pp h else 0) (H - 1 - i)) H = pyd F H r hh pp d := sU_rev (fun h => if hh h ≤ gvd F r d h then pp h else 0) H
    rw [← e2]
    refine sU_e H (fun i hi => ?_)
    show (if hh (H - 1 - i) ≤ gvb c (fun b => r (pk (c - 1 - b))) (2 ^ c - 1) (fun b => d (pk (c - 1 - b))) (H - 1 - i) then pp (H - 1 - i) else 0) = (if hh (H - 1 - i) ≤ gvd F r d (H - 1 - i) then pp (H - 1 - i) else 0)
    rw [a1 (H - 1 - i) (by omega)]
  show 67108864 * pyd F H r hh pp d - 131072 * rsd F r d - wtd G d F = 67108864 * pyb c H (fun b => r (pk (c - 1 - b))) hh pp (2 ^ c - 1) (fun b => d (pk (c - 1 - b))) H - 131072 * sA c (2 ^ c - 1) (fun b => if d (pk (c - 1 - b)) = 4 then 0 else r (pk (c - 1 - b))) - sA c (2 ^ c - 1) (fun b => ((d (pk (c - 1 - b)) : Nat) : Int) * w5 b)
  rw [a4, a2, a3]
/-- the best over the places is the best over the flights -/
theorem mxb_mxd {c : Nat} {pk : Nat → Nat} {v : Int} (hc : c = cnB (fun f => G.testBit f) F) (h4 : H ≤ 4) (hr : ∀ f, f < F → 1 ≤ r f ∧ r f ≤ 40) (h7 : c ≤ 7) (hh1 : ∀ k, k < H → 1 ≤ hh k) (hp : ∀ f, f < F → G.testBit f = true → pk (cnB (fun f => G.testBit f) f) = f)
    (h : mxb c H (fun b => r (pk (c - 1 - b))) hh pp H (2 ^ c - 1) v) : ∃ d, gdd F H r hh G d ∧ vld F H r hh pp G d = v ∧ ∀ e, okd F H G e → vld F H r hh pp G e ≤ v := by
  have p2 : 1 ≤ 2 ^ c := Nat.one_le_two_pow
  have up : ∀ e, okd F H G e → vld F H r hh pp G e ≤ v := fun e he => by
    rw [vld_vb hc h4 hp he]
    refine h.2 _ (fun b hb => ?_)
    have hb2 : b < c := tb_lt (show 2 ^ c - 1 < 2 ^ c by omega) hb
    obtain ⟨f, f1, f2, f3⟩ := cnB_sur (p := fun f => G.testBit f) F (c - 1 - b) (by rw [← hc]; omega)
    show e (pk (c - 1 - b)) = 4 ∨ (H - H ≤ e (pk (c - 1 - b)) ∧ e (pk (c - 1 - b)) < H)
    rw [← f3, hp f f1 f2]
    rcases he f f1 with z | z
    · exact Or.inl z
    · exact Or.inr ⟨by omega, z.1⟩
  obtain ⟨⟨e, he, hv⟩, -⟩ := h
  have full : ∀ b, b < c → (2 ^ c - 1).testBit b = true := fun b hb => by
    rw [Nat.testBit_two_pow_sub_one]
    exact decide_eq_true hb
  have dd : ∃ d : Nat → Nat, ∀ f, (G.testBit f = true → d f = e (c - 1 - cnB (fun f => G.testBit f) f)) ∧ (¬ G.testBit f = true → d f = 4) := ⟨fun f => if G.testBit f = true then e (c - 1 - cnB (fun f => G.testBit f) f) else 4, fun f => ⟨fun q => if_pos q, fun q => if_neg q⟩⟩
  obtain ⟨d, hd⟩ := dd
  have ok : okd F H G d := fun f hf => by
    by_cases q : G.testBit f = true
    · rw [(hd f).1 q]
      have l := cnB_lt (p := fun f => G.testBit f) hf q
      rw [← hc] at l
      rcases he _ (full _ (show c - 1 - cnB (fun f => G.testBit f) f < c by omega)) with z | z
      · exact Or.inl z
      · exact Or.inr ⟨z.2, q⟩
    · exact Or.inl ((hd f).2 q)
  have ev : vld F H r hh pp G d = v := by
    rw [vld_vb hc h4 hp ok, ← hv]
    refine vb_e (fun b hb => ?_)
    have hb2 : b < c := tb_lt (show 2 ^ c - 1 < 2 ^ c by omega) hb
    obtain ⟨f, f1, f2, f3⟩ := cnB_sur (p := fun f => G.testBit f) F (c - 1 - b) (by rw [← hc]; omega)
    show d (pk (c - 1 - b)) = e b
    rw [← f3, hp f f1 f2, (hd f).1 f2]
    have f3 : cnB (fun f => G.testBit f) f = c - 1 - b := f3
    rw [f3]
    exact congrArg e (by omega)
  obtain ⟨d', g1, g2⟩ := gd_ex (pp := pp) hr h4 (by rw [← hc]; exact h7) hh1 ok
  have := up d' g1.1
  exact ⟨d', g1, by omega, up⟩
end Pf
