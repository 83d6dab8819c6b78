/-! bits -/
theorem zshl_1 : ∀ k : Nat, k < 31 → zshl 1 (k : Int) = ((2 ^ k : Nat) : Int) := by decide +kernel
theorem zshr_k : ∀ k : Nat, k < 32 → ((BitVec.ofInt 32 (k : Int) &&& 31#32).smod 32#32).toNat = k := by decide +kernel
theorem zshr_nat {x k : Nat} (hx : x < 2147483648) (hk : k < 32) : zshr (x : Int) (k : Int) = ((x >>> k : Nat) : Int) := by
  show (BitVec.sshiftRight (BitVec.ofInt 32 (x : Int)) ((BitVec.ofInt 32 (k : Int) &&& 31#32).smod 32#32).toNat).toInt = _
  rw [zshr_k k hk, BitVec.toInt_sshiftRight, bv_nat32]
  have e : (BitVec.ofNat 32 x).toNat = x := by rw [BitVec.toNat_ofNat, Nat.mod_eq_of_lt (by omega)]
  rw [BitVec.toInt_eq_toNat_of_lt (by rw [e]; omega), e]
  rfl
theorem shr_le (x k : Nat) : x >>> k ≤ x := Nat.shiftRight_le x k
theorem zbit {x k : Nat} (hx : x < 2147483648) (hk : k < 32) : zand (zshr (x : Int) (k : Int)) 1 = if x.testBit k = true then 1 else 0 := by
  have h := shr_le x k
  rw [zshr_nat hx hk]
  have e := zand_nat (x := x >>> k) (y := 1) (by omega) (by decide)
  have e : zand ((x >>> k : Nat) : Int) 1 = ((x >>> k &&& 1 : Nat) : Int) := e
  rw [e, Nat.and_one_is_mod]
  have ht : x.testBit k = decide (x >>> k % 2 = 1) := by
    rw [Nat.testBit_eq_decide_div_mod_eq, Nat.shiftRight_eq_div_pow]
  rw [ht]
  by_cases c : x >>> k % 2 = 1
  · rw [c]; rfl
  · rw [if_neg (fun q => c (of_decide_eq_true q)), show x >>> k % 2 = 0 by omega]; rfl
theorem zbit1 {x k : Nat} (hx : x < 2147483648) (hk : k < 32) : zand (zshr (x : Int) (k : Int)) 1 = 1 ↔ x.testBit k = true := by
  rw [zbit hx hk]
  split
  · rename_i h; exact ⟨fun _ => h, fun _ => rfl⟩
  · rename_i h; exact ⟨fun q => absurd q (by decide), fun q => absurd q h⟩
theorem zbit0 {x k : Nat} (hx : x < 2147483648) (hk : k < 32) : zand (zshr (x : Int) (k : Int)) 1 = 0 ↔ ¬ x.testBit k = true := by
  rw [zbit hx hk]
  split
  · rename_i h; exact ⟨fun q => absurd q (by decide), fun q => absurd h q⟩
  · rename_i h; exact ⟨fun _ => h, fun _ => rfl⟩
/-- a less b -/
def ndf (a b : Nat) : Nat := (BitVec.ofNat 32 a &&& ~~~ BitVec.ofNat 32 b).toNat
theorem ndf_tb {a b i : Nat} (ha : a < 4294967296) (hb : b < 4294967296) : (ndf a b).testBit i = (a.testBit i && !b.testBit i) := by
  unfold ndf
  rw [BitVec.toNat_and, Nat.testBit_and]
  have e1 : (BitVec.ofNat 32 a).toNat = a := by rw [BitVec.toNat_ofNat, Nat.mod_eq_of_lt (by omega)]
  rw [e1, BitVec.testBit_toNat, BitVec.getLsbD_not, BitVec.getLsbD_ofNat]
  by_cases hi : i < 32
  · simp [hi]
  · have : a.testBit i = false := Nat.testBit_lt_two_pow (Nat.lt_of_lt_of_le ha (Nat.pow_le_pow_right (n := 2) (by decide) (show 32 ≤ i by omega)))
    rw [this]
    simp
theorem ndf_le {a b : Nat} (ha : a < 4294967296) : ndf a b ≤ a := by
  unfold ndf
  rw [BitVec.toNat_and]
  have e1 : (BitVec.ofNat 32 a).toNat = a := by rw [BitVec.toNat_ofNat, Nat.mod_eq_of_lt (by omega)]
  rw [e1]
  exact Nat.and_le_left
theorem zxn {b : Nat} : Int32.ofInt (zxor (b : Int) (-1)) = ⟨⟨~~~ BitVec.ofNat 32 b⟩⟩ := by
  show Int32.ofInt (BitVec.ofInt 32 (b : Int) ^^^ BitVec.ofInt 32 (-1)).toInt = _
  have e : (BitVec.ofInt 32 (b : Int) ^^^ BitVec.ofInt 32 (-1)) = ~~~ BitVec.ofNat 32 b := by
    rw [bv_nat32, show BitVec.ofInt 32 (-1) = BitVec.allOnes 32 from by decide, BitVec.xor_allOnes]
  rw [e]
  have e2 : BitVec.ofInt 32 (~~~ BitVec.ofNat 32 b).toInt = ~~~ BitVec.ofNat 32 b := BitVec.ofInt_toInt
  show (⟨⟨BitVec.ofInt 32 _⟩⟩ : Int32) = _
  rw [e2]
theorem zandn {a b : Nat} (ha : a < 2147483648) : zand (a : Int) (zxor (b : Int) (-1)) = (ndf a b : Int) := by
  unfold zand
  rw [zxn]
  show (BitVec.ofInt 32 (a : Int) &&& ~~~ BitVec.ofNat 32 b).toInt = _
  rw [bv_nat32]
  have h := ndf_le (a := a) (b := b) (by omega)
  have e : (BitVec.ofNat 32 a &&& ~~~ BitVec.ofNat 32 b).toNat = ndf a b := rfl
  rw [BitVec.toInt_eq_toNat_of_lt (by rw [e]; omega), e]
theorem zandn' {a b : Nat} (ha : a < 2147483648) : zand (zxor (b : Int) (-1)) (a : Int) = (ndf a b : Int) := by
  rw [← zandn ha]
  unfold zand
  show (_ &&& _ : BitVec 32).toInt = (_ &&& _ : BitVec 32).toInt
  rw [BitVec.and_comm]
/-- a set of numbers below n, as bits -/
def bset (p : Nat → Bool) : Nat → Nat
  | 0 => 0
  | n + 1 => if p n = true then bset p n + 2 ^ n else bset p n
theorem bset_lt (p : Nat → Bool) : ∀ n, bset p n < 2 ^ n
  | 0 => show (0 : Nat) < 1 by decide
  | n + 1 => by
    have h := bset_lt p n
    unfold bset
    rw [Nat.pow_succ]
    split <;> omega
theorem bset_tb (p : Nat → Bool) : ∀ n i, (bset p n).testBit i = (decide (i < n) && p i)
  | 0, i => by rw [show bset p 0 = 0 from rfl, Nat.zero_testBit]; simp
  | n + 1, i => by
    have h := bset_lt p n
    have ih := bset_tb p n i
    unfold bset
    split
    · rename_i hp
      have e9 := Nat.two_pow_add_eq_or_of_lt h 1
      rw [Nat.mul_one] at e9
      rw [Nat.add_comm, e9]
      by_cases e : i = n
      · subst e
        rw [Nat.testBit_or, Nat.testBit_two_pow, hp]
        simp
      · rw [Nat.testBit_or, ih, Nat.testBit_two_pow]
        have : decide (n = i) = false := decide_eq_false (fun q => e q.symm)
        rw [this, Bool.false_or]
        by_cases l : i < n
        · rw [decide_eq_true l, decide_eq_true (show i < n + 1 by omega)]
        · rw [decide_eq_false l, decide_eq_false (show ¬ i < n + 1 by omega)]
    · rename_i hp
      rw [ih]
      by_cases e : i = n
      · subst e
        simp [hp]
      · by_cases l : i < n
        · rw [decide_eq_true l, decide_eq_true (show i < n + 1 by omega)]
        · rw [decide_eq_false l, decide_eq_false (show ¬ i < n + 1 by omega)]
theorem zor_bit {b k : Nat} (hb : b < 2 ^ k) (hk : k < 30) : zor (b : Int) (zshl 1 (k : Int)) = ((b + 2 ^ k : Nat) : Int) := by
  have h30 : 2 ^ k ≤ 2 ^ 29 := Nat.pow_le_pow_right (by decide) (by omega)
  have h29 : 2 ^ 29 = 536870912 := by decide
  rw [zshl_1 k (by omega), zor_nat (by omega) (by omega)]
  have e9 := Nat.two_pow_add_eq_or_of_lt hb 1
  rw [Nat.mul_one] at e9
  rw [Nat.add_comm, e9, Nat.or_comm]
/-- a set, told further by one -/
theorem bset_yes {p : Nat → Bool} {k : Nat} (h : p k = true) : bset p (k + 1) = bset p k + 2 ^ k := if_pos h
theorem bset_no {p : Nat → Bool} {k : Nat} (h : p k = false) : bset p (k + 1) = bset p k := if_neg (by rw [h]; decide)
theorem bset_zor {p : Nat → Bool} {k : Nat} (h : p k = true) (hk : k < 30) : zor ((bset p k : Nat) : Int) (zshl 1 (k : Int)) = ((bset p (k + 1) : Nat) : Int) := by
  rw [zor_bit (bset_lt p k) hk, bset_yes h]
theorem bset_congr {p q : Nat → Bool} : ∀ {n : Nat}, (∀ i, i < n → p i = q i) → bset p n = bset q n
  | 0, _ => rfl
  | n + 1, h => by
    have ih := bset_congr (n := n) (fun i hi => h i (by omega))
    unfold bset
    rw [ih, h n (by omega)]
theorem bset_ext {a : Nat} {p : Nat → Bool} {n : Nat} (ha : a < 2 ^ n) (h : ∀ i, i < n → a.testBit i = p i) : a = bset p n := by
  apply Nat.eq_of_testBit_eq
  intro i
  rw [bset_tb]
  by_cases l : i < n
  · rw [decide_eq_true l, h i l, Bool.true_and]
  · rw [decide_eq_false l, Bool.false_and]
    exact Nat.testBit_lt_two_pow (Nat.lt_of_lt_of_le ha (Nat.pow_le_pow_right (by decide) (by omega)))
