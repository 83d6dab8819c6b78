/-! numbers that don't wrap; stores -/
theorem w32_id {z : Int} (h1 : -2147483648 ≤ z) (h2 : z ≤ 2147483647) : w32 z = z := Int.bmod_eq_of_le (by omega) (by omega)
theorem w64_id {z : Int} (h1 : -9223372036854775808 ≤ z) (h2 : z ≤ 9223372036854775807) : w64 z = z := Int.bmod_eq_of_le (by omega) (by omega)
theorem zu_eq (s : Zs) (c j : Nat) (v : Int) : zu s c j v c j = v := by unfold zu; rw [if_pos rfl, if_pos rfl]
theorem zu_j {s : Zs} {c j j' : Nat} {v : Int} (h : j' ≠ j) : zu s c j v c j' = s c j' := by unfold zu; rw [if_pos rfl, if_neg h]
theorem zu_c {s : Zs} {c j c' j' : Nat} {v : Int} (h : c' ≠ c) : zu s c j v c' j' = s c' j' := by unfold zu; rw [if_neg h]
theorem zu_n {s : Zs} {c j c' j' : Nat} {v : Int} (h : ¬ (c' = c ∧ j' = j)) : zu s c j v c' j' = s c' j' := by
  unfold zu
  by_cases h1 : c' = c
  · rw [if_pos h1, if_neg (fun e => h ⟨h1, e⟩)]
  · rw [if_neg h1]
theorem zcmpL_eq {x y : Int} : zcmpL x y = 0 ↔ x = y := by
  unfold zcmpL
  by_cases h1 : y < x
  · rw [if_pos h1]
    constructor
    · intro h; cases h
    · intro h; omega
  · rw [if_neg h1]
    by_cases h2 : x = y
    · rw [if_pos h2]; exact ⟨fun _ => h2, fun _ => rfl⟩
    · rw [if_neg h2]
      constructor
      · intro h; cases h
      · intro h; exact absurd h h2
theorem bv_nat32 (x : Nat) : BitVec.ofInt 32 (x : Int) = BitVec.ofNat 32 x := BitVec.ofInt_natCast 32 x
theorem zand_nat {x y : Nat} (hx : x < 2147483648) (hy : y < 2147483648) : zand (x : Int) (y : Int) = ((x &&& y : Nat) : Int) := by
  show (BitVec.ofInt 32 (x : Int) &&& BitVec.ofInt 32 (y : Int)).toInt = _
  rw [bv_nat32, bv_nat32]
  have e : (BitVec.ofNat 32 x &&& BitVec.ofNat 32 y).toNat = x &&& y := by
    rw [BitVec.toNat_and, BitVec.toNat_ofNat, BitVec.toNat_ofNat, Nat.mod_eq_of_lt (by omega), Nat.mod_eq_of_lt (by omega)]
  have hl : x &&& y ≤ x := Nat.and_le_left
  rw [BitVec.toInt_eq_toNat_of_lt (by rw [e]; omega), e]
theorem zor_nat {x y : Nat} (hx : x < 2147483648) (hy : y < 2147483648) : zor (x : Int) (y : Int) = ((x ||| y : Nat) : Int) := by
  show (BitVec.ofInt 32 (x : Int) ||| BitVec.ofInt 32 (y : Int)).toInt = _
  rw [bv_nat32, bv_nat32]
  have e : (BitVec.ofNat 32 x ||| BitVec.ofNat 32 y).toNat = x ||| y := by
    rw [BitVec.toNat_or, BitVec.toNat_ofNat, BitVec.toNat_ofNat, Nat.mod_eq_of_lt (by omega), Nat.mod_eq_of_lt (by omega)]
  have hl : x ||| y < 2 ^ 31 := Nat.or_lt_two_pow (by omega) (by omega)
  rw [BitVec.toInt_eq_toNat_of_lt (by rw [e]; omega), e]
theorem bv_nat64 (x : Nat) : BitVec.ofInt 64 (x : Int) = BitVec.ofNat 64 x := BitVec.ofInt_natCast 64 x
/-- a word with one more letter -/
theorem z_letter {w d : Nat} (hw : w < 2 ^ 40) (hd : d < 32) : zorL (zshlL (w : Int) 5) (d : Int) = ((w * 32 + d : Nat) : Int) := by
  have e1 : zshlL (w : Int) 5 = ((w * 32 : Nat) : Int) := by
    show (BitVec.ofInt 64 (w : Int) <<< ((((Int32.ofInt 5).toInt64 &&& 63).toBitVec.smod 64))).toInt = _
    rw [show ((Int32.ofInt 5).toInt64 &&& 63).toBitVec.smod 64 = 5#64 from by decide +kernel, bv_nat64]
    have e : (BitVec.ofNat 64 w <<< 5#64).toNat = w * 32 := by
      rw [BitVec.shiftLeft_eq', BitVec.toNat_shiftLeft, BitVec.toNat_ofNat, Nat.mod_eq_of_lt (show w < 2 ^ 64 by omega), show (5#64).toNat = 5 from rfl, Nat.shiftLeft_eq, Nat.mod_eq_of_lt (show w * 2 ^ 5 < 2 ^ 64 by omega)]
    rw [BitVec.toInt_eq_toNat_of_lt (by rw [e]; omega), e]
  rw [e1]
  show (BitVec.ofInt 64 ((w * 32 : Nat) : Int) ||| BitVec.ofInt 64 (d : Int)).toInt = _
  rw [bv_nat64, bv_nat64]
  have e : (BitVec.ofNat 64 (w * 32) ||| BitVec.ofNat 64 d).toNat = w * 32 + d := by
    rw [BitVec.toNat_or, BitVec.toNat_ofNat, BitVec.toNat_ofNat, Nat.mod_eq_of_lt (by omega), Nat.mod_eq_of_lt (by omega), Nat.mul_comm w 32]
    exact (Nat.two_pow_add_eq_or_of_lt (i := 5) hd w).symm
  rw [BitVec.toInt_eq_toNat_of_lt (by rw [e]; omega), e]
theorem pw_pos {a : Int} (h : 1 ≤ a) : ∀ n : Nat, 1 ≤ a ^ n
  | 0 => by rw [Int.pow_zero]; omega
  | n + 1 => by
    have h1 := pw_pos h n
    have h2 := Int.mul_le_mul_of_nonneg_left h (show 0 ≤ a ^ n by omega)
    rw [Int.pow_succ]
    omega
theorem pw_le {a : Int} (h : 1 ≤ a) {m n : Nat} (hn : m ≤ n) : a ^ m ≤ a ^ n := by
  induction hn with
  | refl => exact Int.le_refl _
  | step _ ih =>
    rename_i k _
    have h1 := pw_pos h k
    have h2 := Int.mul_le_mul_of_nonneg_left h (show 0 ≤ a ^ k by omega)
    rw [Int.pow_succ]
    omega
/-! words as lists of letters, by their numbers -/
def enc (B : Int) : List Int → Int
  | [] => 0
  | x :: l => enc B l * B + x
def okW (l : List Int) : Prop := ∀ x ∈ l, 1 ≤ x ∧ x ≤ 26
theorem enc_pos {B : Int} (hB : 0 < B) : ∀ (l : List Int), okW l → 0 ≤ enc B l ∧ (l ≠ [] → 0 < enc B l)
  | [], _ => ⟨Int.le_refl 0, fun h => absurd rfl h⟩
  | x :: l, h => by
    have h1 := (enc_pos hB l (fun y hy => h y (List.mem_cons_of_mem _ hy))).1
    have h2 := h x List.mem_cons_self
    have h3 : 0 ≤ enc B l * B := Int.mul_nonneg h1 (by omega)
    have e : enc B (x :: l) = enc B l * B + x := rfl
    rw [e]
    exact ⟨by omega, fun _ => by omega⟩
theorem enc_inj {B : Int} (hB : B = 27 ∨ B = 32) : ∀ (u v : List Int), okW u → okW v → enc B u = enc B v → u = v
  | [], [], _, _, _ => rfl
  | [], y :: v, _, hv, h => by
    have := (enc_pos (B := B) (by omega) (y :: v) hv).2 (by simp)
    rw [← h] at this
    exact absurd (show (0 : Int) < 0 from this) (by decide)
  | x :: u, [], hu, _, h => by
    have := (enc_pos (B := B) (by omega) (x :: u) hu).2 (by simp)
    rw [h] at this
    exact absurd (show (0 : Int) < 0 from this) (by decide)
  | x :: u, y :: v, hu, hv, h => by
    have hx := hu x List.mem_cons_self
    have hy := hv y List.mem_cons_self
    have h : enc B u * B + x = enc B v * B + y := h
    have key : enc B u = enc B v ∧ x = y := by
      rcases hB with rfl | rfl <;> omega
    rw [key.2, enc_inj hB u v (fun z hz => hu z (List.mem_cons_of_mem _ hz)) (fun z hz => hv z (List.mem_cons_of_mem _ hz)) key.1]
/-- the letters of a word on the tape, the last one first -/
def wds (T : Nat → Int) (b : Nat) : Nat → List Int
  | 0 => []
  | k + 1 => (T (b + k) - 96) :: wds T b k
/-- the number of digits on the tape -/
def nbs (T : Nat → Int) (b : Nat) : Nat → Int
  | 0 => 0
  | k + 1 => nbs T b k * 10 + T (b + k) - 48
def zBl (s : Int) : Bool := decide (s = 10) || decide (s = 32)
def zLt (s : Int) : Bool := decide (97 ≤ s) && decide (s ≤ 122)
def zDg (s : Int) : Bool := decide (48 ≤ s) && decide (s ≤ 57)
def zSg (s : Int) : Bool := decide (s = 40) || decide (s = 41) || decide (s = 60) || decide (s = 61) || decide (s = 43) || decide (s = 45) || decide (s = 42) || decide (s = 59)
theorem zLt_t {s : Int} : zLt s = true ↔ 97 ≤ s ∧ s ≤ 122 := by unfold zLt; simp
theorem zDg_t {s : Int} : zDg s = true ↔ 48 ≤ s ∧ s ≤ 57 := by unfold zDg; simp
theorem zBl_t {s : Int} : zBl s = true ↔ s = 10 ∨ s = 32 := by unfold zBl; simp
theorem zSg_t {s : Int} : zSg s = true ↔ 0 ≤ zsgn s := by
  unfold zSg zsgn
  by_cases h1 : s = 40
  · subst h1; decide
  by_cases h2 : s = 41
  · subst h2; decide
  by_cases h3 : s = 60
  · subst h3; decide
  by_cases h4 : s = 61
  · subst h4; decide
  by_cases h5 : s = 43
  · subst h5; decide
  by_cases h6 : s = 45
  · subst h6; decide
  by_cases h7 : s = 42
  · subst h7; decide
  by_cases h8 : s = 59
  · subst h8; decide
  simp [h1, h2, h3, h4, h5, h6, h7, h8]
/-- where a run of signs of one sort ends -/
def zrn (c : Int → Bool) (T : Nat → Int) (n : Nat) : Nat → Nat → Nat
  | 0, p => p
  | f + 1, p => if p < n ∧ c (T p) = true then zrn c T n f (p + 1) else p
def ze (c : Int → Bool) (T : Nat → Int) (n p : Nat) : Nat := zrn c T n (n - p) p
theorem ze_go {c : Int → Bool} {T : Nat → Int} {n p : Nat} (h : p < n) (hc : c (T p) = true) : ze c T n p = ze c T n (p + 1) := by
  unfold ze
  rw [show n - p = (n - (p + 1)) + 1 from by omega]
  show (if p < n ∧ c (T p) = true then _ else p) = _
  rw [if_pos ⟨h, hc⟩]
theorem ze_no {c : Int → Bool} {T : Nat → Int} {n p : Nat} (h : ¬ (p < n ∧ c (T p) = true)) : ze c T n p = p := by
  unfold ze
  cases n - p with
  | zero => rfl
  | succ f =>
    show (if p < n ∧ c (T p) = true then _ else p) = p
    rw [if_neg h]
theorem ze_le {c : Int → Bool} {T : Nat → Int} {n : Nat} : ∀ (f p : Nat), n - p = f → p ≤ n → p ≤ ze c T n p ∧ ze c T n p ≤ n
  | 0, p, hf, hp => by rw [ze_no (by omega)]; omega
  | f + 1, p, hf, hp => by
    by_cases h : p < n ∧ c (T p) = true
    · rw [ze_go h.1 h.2]
      have := ze_le (c := c) (T := T) (n := n) f (p + 1) (by omega) (by omega)
      omega
    · rw [ze_no h]
      omega
theorem ze_bd {c : Int → Bool} {T : Nat → Int} {n p : Nat} (hp : p ≤ n) : p ≤ ze c T n p ∧ ze c T n p ≤ n := ze_le _ p rfl hp
theorem ze_lt {c : Int → Bool} {T : Nat → Int} {n p : Nat} (h : p < n) (hc : c (T p) = true) : p < ze c T n p := by
  rw [ze_go h hc]
  have := ze_bd (c := c) (T := T) (n := n) (p := p + 1) (by omega)
  omega
/-- a token that begins at b: where it ends, what it is, its letters, its number -/
def eE (T : Nat → Int) (n b : Nat) : Nat := if n ≤ b then b else if zLt (T b) = true then ze zLt T n b else if zDg (T b) = true then ze zDg T n b else b + 1
def eQ (T : Nat → Int) (n b : Nat) : Int := if n ≤ b then 1 else if zLt (T b) = true then (if ze zLt T n b ≤ b + 8 then 2 else 0) else if zDg (T b) = true then (if ze zDg T n b ≤ b + 4 then 3 else 0) else if zSg (T b) = true then 4 else 0
def eW (T : Nat → Int) (n b : Nat) : List Int := wds T b (ze zLt T n b - b)
def eM (T : Nat → Int) (n b : Nat) : Int := nbs T b (ze zDg T n b - b)
def kB (T : Nat → Int) (n p : Nat) : Nat := ze zBl T n p
def kE (T : Nat → Int) (n p : Nat) : Nat := eE T n (kB T n p)
theorem eE_bd {T : Nat → Int} {n b : Nat} (hb : b ≤ n) : b ≤ eE T n b ∧ eE T n b ≤ n := by
  unfold eE
  have h1 := ze_bd (c := zLt) (T := T) hb
  have h2 := ze_bd (c := zDg) (T := T) hb
  split
  · omega
  · split
    · omega
    · split <;> omega
theorem eE_lt {T : Nat → Int} {n b : Nat} (hb : b < n) : b < eE T n b := by
  unfold eE
  rw [if_neg (by omega)]
  split
  · rename_i h; exact ze_lt hb h
  · split
    · rename_i h; exact ze_lt hb h
    · omega
theorem kE_bd {T : Nat → Int} {n p : Nat} (hp : p ≤ n) : p ≤ kB T n p ∧ kB T n p ≤ n ∧ kB T n p ≤ kE T n p ∧ kE T n p ≤ n := by
  have h1 := ze_bd (c := zBl) (T := T) hp
  have h2 := eE_bd (T := T) h1.2
  exact ⟨h1.1, h1.2, h2.1, h2.2⟩
theorem okW_wds {T : Nat → Int} {b : Nat} : ∀ k, (∀ i, i < k → zLt (T (b + i)) = true) → okW (wds T b k)
  | 0, _ => fun x hx => by cases hx
  | k + 1, h => fun x hx => by
    rcases List.mem_cons.mp hx with rfl | hx
    · have := zLt_t.mp (h k (by omega))
      omega
    · exact okW_wds k (fun i hi => h i (by omega)) x hx
theorem ze_all {c : Int → Bool} {T : Nat → Int} {n : Nat} : ∀ (f p : Nat), n - p = f → p ≤ n → ∀ i, p ≤ i → i < ze c T n p → c (T i) = true
  | 0, p, hf, hp, i, h1, h2 => by rw [ze_no (by omega)] at h2; omega
  | f + 1, p, hf, hp, i, h1, h2 => by
    by_cases h : p < n ∧ c (T p) = true
    · rw [ze_go h.1 h.2] at h2
      by_cases e : i = p
      · rw [e]; exact h.2
      · exact ze_all f (p + 1) (by omega) (by omega) i (by omega) h2
    · rw [ze_no h] at h2
      omega
theorem eW_ok {T : Nat → Int} {n b : Nat} (hb : b ≤ n) : okW (eW T n b) := okW_wds _ (fun i hi => ze_all _ b rfl hb (b + i) (by omega) (by omega))
theorem enc_len : ∀ (l : List Int), okW l → enc 32 l < 32 ^ l.length
  | [], _ => by decide
  | x :: l, h => by
    have h1 := enc_len l (fun y hy => h y (List.mem_cons_of_mem _ hy))
    have h2 := h x List.mem_cons_self
    have e : enc 32 (x :: l) = enc 32 l * 32 + x := rfl
    rw [e, List.length_cons, Int.pow_succ]
    omega
theorem wds_len {T : Nat → Int} {b : Nat} : ∀ k, (wds T b k).length = k
  | 0 => rfl
  | k + 1 => by show (wds T b k).length + 1 = k + 1; rw [wds_len k]
