def sp_count (n : Int32) : Int32 := if n < 0 ∨ 12 < n then -1 else 0
def sp_judged (n : Int32) : Int32 := if n < 0 ∨ 2 < n then -2 else if n = 2 then 0 else -1
def sp_plan (n : Int32) : Int32 := if n < 0 ∨ 1 < n then -1 else 0
def sp_fits (n : Int32) : Int32 := if n < 0 ∨ 3 < n then -1 else if n = 0 then 1 else 0
def sp_orders (n : Int32) : Int32 := if n < 0 ∨ 1 < n then -2 else 0
def sp_thefts (a b c : Int32) : Int32 := if (a < 0 ∨ 10 < a) ∨ (b < 0 ∨ 5 < b) ∨ (c < 0 ∨ 1 < c) then -1 else 0
def sp_years (a b c : Int32) : Int32 := if (a < 0 ∨ 9999 < a) ∨ (b < 1 ∨ 100 < b) ∨ (c < 0 ∨ 2 < c) then -1 else 0
def sp_mark0 (n : Int32) : Int32 := if n < 0 ∨ 3 < n then 0 else 1
def sp_mark1 (_ : Int32) : Int32 := 0
theorem i32_lo {x a b : Int32} (h : x < a) (hb : b.toInt = a.toInt - 1) : x ≤ b := by
  simp only [Int32.lt_iff_toInt_lt, Int32.le_iff_toInt_le] at h ⊢; omega
theorem i32_hi {x a b : Int32} (h : a < x) (hb : b.toInt = a.toInt + 1) : b ≤ x := by
  simp only [Int32.lt_iff_toInt_lt, Int32.le_iff_toInt_le] at h ⊢; omega
theorem i32_ge {x a : Int32} (h : ¬ x < a) : a ≤ x := Int32.not_lt.mp h
theorem i32_nat {x : Int32} (n : Nat) (hn : n < 2 ^ 31) (h0 : ¬ x < 0) (h1 : ¬ nI n < x) : ∃ j, j ≤ n ∧ x = nI j := by
  obtain ⟨j, hj, rfl⟩ := nI_of h0
  refine ⟨j, ?_, rfl⟩
  rcases Nat.lt_or_ge n j with h | h
  · exact absurd ((nI_ltI hn hj).mpr h) h1
  · exact h

theorem x_count (l : Launch) (g : va_G) (aC : Nat → ClassId) (aM : Nat → Nat) (h1 h2 h5 h7 h9 h10 h27 : Nat) (x3 x4 x6 x8 x11 x12 x13 x14 x15 x16 x17 x18 x19 x20 x21 x22 x23 x24 x25 x26 x28 x29 x30 x31 x32 x33 x34 x35 x36 x37 x38 x39 x40 x41 x42 x43 x44 x45 : Value) (n_1 : Int32) : Ct l g aC aM yX10_count cX10_count 2 (some .int) 2 [.ref h1, .int n_1] [(h1, .inr (10, [.ref h2, x3, x4, .ref h5, x6, .ref h7, x8, .ref h9, .ref h10, x11, x12, x13, x14, x15, x16, x17])), (h2, .inr (7, [.int 0, x18, x19, x20, x21, x22, x23, x24, x25, x26])), (h5, .inr (8, [.ref h27, x28, x29, x30, x31, x32, x33, x34, x35, x36, x37, x38])), (h27, .inl (aC 0, 5, .inl (fun _ => 0))), (h7, .inr (6, [.int 0, x39, x40, .int 0, .int 0, .int 0])), (h9, .inr (5, [x41, .int 0, .int 0, x42, x43])), (h10, .inr (1, [.int 0, x44, x45]))] (QI g (fun (r : Int32) (_ : Unit) => r = (sp_count n_1)) (fun (_ : Unit) => [])) 0 0 := by
  by_cases hq0 : n_1 < 0
  · have e_ : sp_count n_1 = (-1) := by unfold sp_count; rw [if_pos (Or.inl hq0)]
    rw [e_]
    exact x_count_lo l g aC aM h1 h2 h5 h7 h9 h10 h27 x3 x4 x6 x8 x11 x12 x13 x14 x15 x16 x17 x18 x19 x20 x21 x22 x23 x24 x25 x26 x28 x29 x30 x31 x32 x33 x34 x35 x36 x37 x38 x39 x40 x41 x42 x43 x44 x45 n_1  (i32_lo hq0 (by decide))
  by_cases hq1 : 12 < n_1
  · have e_ : sp_count n_1 = (-1) := by unfold sp_count; rw [if_pos (Or.inr hq1)]
    rw [e_]
    exact x_count_hi l g aC aM h1 h2 h5 h7 h9 h10 h27 x3 x4 x6 x8 x11 x12 x13 x14 x15 x16 x17 x18 x19 x20 x21 x22 x23 x24 x25 x26 x28 x29 x30 x31 x32 x33 x34 x35 x36 x37 x38 x39 x40 x41 x42 x43 x44 x45 n_1  (i32_hi hq1 (by decide))
  obtain ⟨j, hj, rfl⟩ := i32_nat 12 (by decide) hq0 hq1
  rcases (show j = 0 ∨ j = 1 ∨ j = 2 ∨ j = 3 ∨ j = 4 ∨ j = 5 ∨ j = 6 ∨ j = 7 ∨ j = 8 ∨ j = 9 ∨ j = 10 ∨ j = 11 ∨ j = 12 by omega) with rfl | rfl | rfl | rfl | rfl | rfl | rfl | rfl | rfl | rfl | rfl | rfl | rfl
  · have e_ : sp_count (nI 0) = 0 := by decide
    rw [e_]
    exact x_count_0 l g aC aM h1 h2 h5 h7 h9 h10 h27 x3 x4 x6 x8 x11 x12 x13 x14 x15 x16 x17 x18 x19 x20 x21 x22 x23 x24 x25 x26 x28 x29 x30 x31 x32 x33 x34 x35 x36 x37 x38 x39 x40 x41 x42 x43 x44 x45 
  · have e_ : sp_count (nI 1) = 0 := by decide
    rw [e_]
    exact x_count_1 l g aC aM h1 h2 h5 h7 h9 h10 h27 x3 x4 x6 x8 x11 x12 x13 x14 x15 x16 x17 x18 x19 x20 x21 x22 x23 x24 x25 x26 x28 x29 x30 x31 x32 x33 x34 x35 x36 x37 x38 x39 x40 x41 x42 x43 x44 x45 
  · have e_ : sp_count (nI 2) = 0 := by decide
    rw [e_]
    exact x_count_2 l g aC aM h1 h2 h5 h7 h9 h10 h27 x3 x4 x6 x8 x11 x12 x13 x14 x15 x16 x17 x18 x19 x20 x21 x22 x23 x24 x25 x26 x28 x29 x30 x31 x32 x33 x34 x35 x36 x37 x38 x39 x40 x41 x42 x43 x44 x45 
  · have e_ : sp_count (nI 3) = 0 := by decide
    rw [e_]
    exact x_count_3 l g aC aM h1 h2 h5 h7 h9 h10 h27 x3 x4 x6 x8 x11 x12 x13 x14 x15 x16 x17 x18 x19 x20 x21 x22 x23 x24 x25 x26 x28 x29 x30 x31 x32 x33 x34 x35 x36 x37 x38 x39 x40 x41 x42 x43 x44 x45 
  · have e_ : sp_count (nI 4) = 0 := by decide
    rw [e_]
    exact x_count_4 l g aC aM h1 h2 h5 h7 h9 h10 h27 x3 x4 x6 x8 x11 x12 x13 x14 x15 x16 x17 x18 x19 x20 x21 x22 x23 x24 x25 x26 x28 x29 x30 x31 x32 x33 x34 x35 x36 x37 x38 x39 x40 x41 x42 x43 x44 x45 
  · have e_ : sp_count (nI 5) = 0 := by decide
    rw [e_]
    exact x_count_5 l g aC aM h1 h2 h5 h7 h9 h10 h27 x3 x4 x6 x8 x11 x12 x13 x14 x15 x16 x17 x18 x19 x20 x21 x22 x23 x24 x25 x26 x28 x29 x30 x31 x32 x33 x34 x35 x36 x37 x38 x39 x40 x41 x42 x43 x44 x45 
  · have e_ : sp_count (nI 6) = 0 := by decide
    rw [e_]
    exact x_count_6 l g aC aM h1 h2 h5 h7 h9 h10 h27 x3 x4 x6 x8 x11 x12 x13 x14 x15 x16 x17 x18 x19 x20 x21 x22 x23 x24 x25 x26 x28 x29 x30 x31 x32 x33 x34 x35 x36 x37 x38 x39 x40 x41 x42 x43 x44 x45 
  · have e_ : sp_count (nI 7) = 0 := by decide
    rw [e_]
    exact x_count_7 l g aC aM h1 h2 h5 h7 h9 h10 h27 x3 x4 x6 x8 x11 x12 x13 x14 x15 x16 x17 x18 x19 x20 x21 x22 x23 x24 x25 x26 x28 x29 x30 x31 x32 x33 x34 x35 x36 x37 x38 x39 x40 x41 x42 x43 x44 x45 
  · have e_ : sp_count (nI 8) = 0 := by decide
    rw [e_]
    exact x_count_8 l g aC aM h1 h2 h5 h7 h9 h10 h27 x3 x4 x6 x8 x11 x12 x13 x14 x15 x16 x17 x18 x19 x20 x21 x22 x23 x24 x25 x26 x28 x29 x30 x31 x32 x33 x34 x35 x36 x37 x38 x39 x40 x41 x42 x43 x44 x45 
  · have e_ : sp_count (nI 9) = 0 := by decide
    rw [e_]
    exact x_count_9 l g aC aM h1 h2 h5 h7 h9 h10 h27 x3 x4 x6 x8 x11 x12 x13 x14 x15 x16 x17 x18 x19 x20 x21 x22 x23 x24 x25 x26 x28 x29 x30 x31 x32 x33 x34 x35 x36 x37 x38 x39 x40 x41 x42 x43 x44 x45 
  · have e_ : sp_count (nI 10) = 0 := by decide
    rw [e_]
    exact x_count_10 l g aC aM h1 h2 h5 h7 h9 h10 h27 x3 x4 x6 x8 x11 x12 x13 x14 x15 x16 x17 x18 x19 x20 x21 x22 x23 x24 x25 x26 x28 x29 x30 x31 x32 x33 x34 x35 x36 x37 x38 x39 x40 x41 x42 x43 x44 x45 
  · have e_ : sp_count (nI 11) = 0 := by decide
    rw [e_]
    exact x_count_11 l g aC aM h1 h2 h5 h7 h9 h10 h27 x3 x4 x6 x8 x11 x12 x13 x14 x15 x16 x17 x18 x19 x20 x21 x22 x23 x24 x25 x26 x28 x29 x30 x31 x32 x33 x34 x35 x36 x37 x38 x39 x40 x41 x42 x43 x44 x45 
  · have e_ : sp_count (nI 12) = 0 := by decide
    rw [e_]
    exact x_count_12 l g aC aM h1 h2 h5 h7 h9 h10 h27 x3 x4 x6 x8 x11 x12 x13 x14 x15 x16 x17 x18 x19 x20 x21 x22 x23 x24 x25 x26 x28 x29 x30 x31 x32 x33 x34 x35 x36 x37 x38 x39 x40 x41 x42 x43 x44 x45 

theorem x_judged (l : Launch) (g : va_G) (aC : Nat → ClassId) (aM : Nat → Nat) (h1 h5 h8 h9 h18 h20 h21 h31 h32 : Nat) (x2 x3 x4 x6 x7 x10 x11 x12 x13 x14 x15 x16 x17 x19 x22 x23 x24 x25 x26 x27 x28 x33 x34 x35 x36 : Value) (R29 R30 : Nat → Nat) (n_1 : Int32) : Ct l g aC aM yX10_judged cX10_judged 5 (some .int) 3 [.ref h1, .int n_1] [(h1, .inr (10, [x2, x3, x4, .ref h5, x6, x7, .ref h8, .ref h9, x10, x11, x12, x13, x14, x15, x16, x17])), (h5, .inr (8, [.ref h18, x19, .ref h20, .ref h21, x22, .int 0, x23, x24, x25, x26, x27, x28])), (h18, .inl (aC 0, 5, .inl (fun _ => 0))), (h20, .inl (aC 6, 4, .inr (.inr (.inr (.inr (fun i => if i < 4 then some (R29 i) else none)))))), (h21, .inl (aC 6, 5, .inr (.inr (.inr (.inr (fun i => if i < 5 then some (R30 i) else none)))))), ((R29 0), .inl (aC 0, 2, .inl (fun _ => 0))), ((R29 1), .inl (aC 0, 2, .inl (fun _ => 0))), ((R29 2), .inl (aC 0, 2, .inl (fun _ => 0))), ((R29 3), .inl (aC 0, 2, .inl (fun _ => 0))), ((R30 0), .inl (aC 0, 4, .inl (fun _ => 0))), ((R30 1), .inl (aC 0, 4, .inl (fun _ => 0))), ((R30 2), .inl (aC 0, 4, .inl (fun _ => 0))), ((R30 3), .inl (aC 0, 4, .inl (fun _ => 0))), ((R30 4), .inl (aC 0, 4, .inl (fun _ => 0))), (h8, .inr (6, [.int 0, .ref h31, .ref h32, .int 0, .int 0, .int 0])), (h31, .inl (aC 0, 5, .inl (fun _ => 0))), (h32, .inl (aC 0, 4, .inl (fun _ => 0))), (h9, .inr (5, [x33, .int 0, x34, x35, x36]))] (QI g (fun (r : Int32) (_ : Unit) => r = (sp_judged n_1)) (fun (_ : Unit) => [])) 0 0 := by
  by_cases hq0 : n_1 < 0
  · have e_ : sp_judged n_1 = (-2) := by unfold sp_judged; rw [if_pos (Or.inl hq0)]
    rw [e_]
    exact x_judged_lo l g aC aM h1 h5 h8 h9 h18 h20 h21 h31 h32 x2 x3 x4 x6 x7 x10 x11 x12 x13 x14 x15 x16 x17 x19 x22 x23 x24 x25 x26 x27 x28 x33 x34 x35 x36 R29 R30 n_1  (i32_lo hq0 (by decide))
  by_cases hq1 : 2 < n_1
  · have e_ : sp_judged n_1 = (-2) := by unfold sp_judged; rw [if_pos (Or.inr hq1)]
    rw [e_]
    exact x_judged_hi l g aC aM h1 h5 h8 h9 h18 h20 h21 h31 h32 x2 x3 x4 x6 x7 x10 x11 x12 x13 x14 x15 x16 x17 x19 x22 x23 x24 x25 x26 x27 x28 x33 x34 x35 x36 R29 R30 n_1  (i32_hi hq1 (by decide))
  obtain ⟨j, hj, rfl⟩ := i32_nat 2 (by decide) hq0 hq1
  rcases (show j = 0 ∨ j = 1 ∨ j = 2 by omega) with rfl | rfl | rfl
  · have e_ : sp_judged (nI 0) = (-1) := by decide
    rw [e_]
    exact x_judged_0 l g aC aM h1 h5 h8 h9 h18 h20 h21 h31 h32 x2 x3 x4 x6 x7 x10 x11 x12 x13 x14 x15 x16 x17 x19 x22 x23 x24 x25 x26 x27 x28 x33 x34 x35 x36 R29 R30 
  · have e_ : sp_judged (nI 1) = (-1) := by decide
    rw [e_]
    exact x_judged_1 l g aC aM h1 h5 h8 h9 h18 h20 h21 h31 h32 x2 x3 x4 x6 x7 x10 x11 x12 x13 x14 x15 x16 x17 x19 x22 x23 x24 x25 x26 x27 x28 x33 x34 x35 x36 R29 R30 
  · have e_ : sp_judged (nI 2) = 0 := by decide
    rw [e_]
    exact x_judged_2 l g aC aM h1 h5 h8 h9 h18 h20 h21 h31 h32 x2 x3 x4 x6 x7 x10 x11 x12 x13 x14 x15 x16 x17 x19 x22 x23 x24 x25 x26 x27 x28 x33 x34 x35 x36 R29 R30 

theorem x_plan (l : Launch) (g : va_G) (aC : Nat → ClassId) (aM : Nat → Nat) (h1 h5 h7 h18 : Nat) (x2 x3 x4 x6 x8 x9 x10 x11 x12 x13 x14 x15 x16 x17 x19 x20 x21 x22 x23 x24 x25 x26 x27 x28 x29 x30 x31 x32 x33 : Value) (n_1 : Int32) : Ct l g aC aM yX10_plan cX10_plan 6 (some .int) 2 [.ref h1, .int n_1] [(h1, .inr (10, [x2, x3, x4, .ref h5, x6, .ref h7, x8, x9, x10, x11, x12, x13, x14, x15, x16, x17])), (h5, .inr (8, [.ref h18, x19, x20, x21, x22, x23, x24, x25, x26, x27, x28, x29])), (h18, .inl (aC 0, 5, .inl (fun _ => 0))), (h7, .inr (6, [.int 0, x30, x31, .int 0, x32, x33]))] (QI g (fun (r : Int32) (_ : Unit) => r = (sp_plan n_1)) (fun (_ : Unit) => [])) 0 0 := by
  by_cases hq0 : n_1 < 0
  · have e_ : sp_plan n_1 = (-1) := by unfold sp_plan; rw [if_pos (Or.inl hq0)]
    rw [e_]
    exact x_plan_lo l g aC aM h1 h5 h7 h18 x2 x3 x4 x6 x8 x9 x10 x11 x12 x13 x14 x15 x16 x17 x19 x20 x21 x22 x23 x24 x25 x26 x27 x28 x29 x30 x31 x32 x33 n_1  (i32_lo hq0 (by decide))
  by_cases hq1 : 1 < n_1
  · have e_ : sp_plan n_1 = (-1) := by unfold sp_plan; rw [if_pos (Or.inr hq1)]
    rw [e_]
    exact x_plan_hi l g aC aM h1 h5 h7 h18 x2 x3 x4 x6 x8 x9 x10 x11 x12 x13 x14 x15 x16 x17 x19 x20 x21 x22 x23 x24 x25 x26 x27 x28 x29 x30 x31 x32 x33 n_1  (i32_hi hq1 (by decide))
  obtain ⟨j, hj, rfl⟩ := i32_nat 1 (by decide) hq0 hq1
  rcases (show j = 0 ∨ j = 1 by omega) with rfl | rfl
  · have e_ : sp_plan (nI 0) = 0 := by decide
    rw [e_]
    exact x_plan_0 l g aC aM h1 h5 h7 h18 x2 x3 x4 x6 x8 x9 x10 x11 x12 x13 x14 x15 x16 x17 x19 x20 x21 x22 x23 x24 x25 x26 x27 x28 x29 x30 x31 x32 x33 
  · have e_ : sp_plan (nI 1) = 0 := by decide
    rw [e_]
    exact x_plan_1 l g aC aM h1 h5 h7 h18 x2 x3 x4 x6 x8 x9 x10 x11 x12 x13 x14 x15 x16 x17 x19 x20 x21 x22 x23 x24 x25 x26 x27 x28 x29 x30 x31 x32 x33 

theorem x_fits (l : Launch) (g : va_G) (aC : Nat → ClassId) (aM : Nat → Nat) (h1 h5 h9 h18 : Nat) (x2 x3 x4 x6 x7 x8 x10 x11 x12 x13 x14 x15 x16 x17 x19 x20 x21 x22 x23 x24 x25 x26 x27 x28 x29 x30 x31 x32 x33 : Value) (n_1 : Int32) : Ct l g aC aM yX10_fits cX10_fits 7 (some .int) 2 [.ref h1, .int n_1] [(h1, .inr (10, [x2, x3, x4, .ref h5, x6, x7, x8, .ref h9, x10, x11, x12, x13, x14, x15, x16, x17])), (h5, .inr (8, [.ref h18, x19, x20, x21, x22, x23, x24, x25, x26, x27, x28, x29])), (h18, .inl (aC 0, 5, .inl (fun _ => 0))), (h9, .inr (5, [x30, x31, .int 0, x32, x33]))] (QI g (fun (r : Int32) (_ : Unit) => r = (sp_fits n_1)) (fun (_ : Unit) => [])) 0 0 := by
  by_cases hq0 : n_1 < 0
  · have e_ : sp_fits n_1 = (-1) := by unfold sp_fits; rw [if_pos (Or.inl hq0)]
    rw [e_]
    exact x_fits_lo l g aC aM h1 h5 h9 h18 x2 x3 x4 x6 x7 x8 x10 x11 x12 x13 x14 x15 x16 x17 x19 x20 x21 x22 x23 x24 x25 x26 x27 x28 x29 x30 x31 x32 x33 n_1  (i32_lo hq0 (by decide))
  by_cases hq1 : 3 < n_1
  · have e_ : sp_fits n_1 = (-1) := by unfold sp_fits; rw [if_pos (Or.inr hq1)]
    rw [e_]
    exact x_fits_hi l g aC aM h1 h5 h9 h18 x2 x3 x4 x6 x7 x8 x10 x11 x12 x13 x14 x15 x16 x17 x19 x20 x21 x22 x23 x24 x25 x26 x27 x28 x29 x30 x31 x32 x33 n_1  (i32_hi hq1 (by decide))
  obtain ⟨j, hj, rfl⟩ := i32_nat 3 (by decide) hq0 hq1
  rcases (show j = 0 ∨ j = 1 ∨ j = 2 ∨ j = 3 by omega) with rfl | rfl | rfl | rfl
  · have e_ : sp_fits (nI 0) = 1 := by decide
    rw [e_]
    exact x_fits_0 l g aC aM h1 h5 h9 h18 x2 x3 x4 x6 x7 x8 x10 x11 x12 x13 x14 x15 x16 x17 x19 x20 x21 x22 x23 x24 x25 x26 x27 x28 x29 x30 x31 x32 x33 
  · have e_ : sp_fits (nI 1) = 0 := by decide
    rw [e_]
    exact x_fits_1 l g aC aM h1 h5 h9 h18 x2 x3 x4 x6 x7 x8 x10 x11 x12 x13 x14 x15 x16 x17 x19 x20 x21 x22 x23 x24 x25 x26 x27 x28 x29 x30 x31 x32 x33 
  · have e_ : sp_fits (nI 2) = 0 := by decide
    rw [e_]
    exact x_fits_2 l g aC aM h1 h5 h9 h18 x2 x3 x4 x6 x7 x8 x10 x11 x12 x13 x14 x15 x16 x17 x19 x20 x21 x22 x23 x24 x25 x26 x27 x28 x29 x30 x31 x32 x33 
  · have e_ : sp_fits (nI 3) = 0 := by decide
    rw [e_]
    exact x_fits_3 l g aC aM h1 h5 h9 h18 x2 x3 x4 x6 x7 x8 x10 x11 x12 x13 x14 x15 x16 x17 x19 x20 x21 x22 x23 x24 x25 x26 x27 x28 x29 x30 x31 x32 x33 

theorem x_orders (l : Launch) (g : va_G) (aC : Nat → ClassId) (aM : Nat → Nat) (h1 h5 h7 h15 h18 h37 h38 : Nat) (x2 x3 x4 x6 x8 x9 x10 x11 x12 x13 x14 x16 x17 x19 x20 x21 x22 x23 x24 x25 x26 x27 x28 x29 x30 x31 x32 x33 x34 x35 x36 : Value) (n_1 : Int32) : Ct l g aC aM yX10_orders cX10_orders 3 (some .int) 4 [.ref h1, .int n_1] [(h1, .inr (10, [x2, x3, x4, .ref h5, x6, .ref h7, x8, x9, x10, x11, x12, x13, x14, .ref h15, x16, x17])), (h5, .inr (8, [.ref h18, x19, x20, x21, x22, x23, x24, x25, x26, x27, x28, x29])), (h18, .inl (aC 0, 5, .inl (fun _ => 0))), (h7, .inr (6, [.int 0, x30, x31, x32, x33, x34])), (h15, .inr (3, [.int 0, x35, x36, .ref h37, .ref h38])), (h37, .inl (aC 0, 128, .inl (fun _ => 0))), (h38, .inl (aC 1, 128, .inr (.inl (fun _ => 0))))] (QI g (fun (r : Int32) (_ : Unit) => r = (sp_orders n_1)) (fun (_ : Unit) => [])) 0 0 := by
  by_cases hq0 : n_1 < 0
  · have e_ : sp_orders n_1 = (-2) := by unfold sp_orders; rw [if_pos (Or.inl hq0)]
    rw [e_]
    exact x_orders_lo l g aC aM h1 h5 h7 h15 h18 h37 h38 x2 x3 x4 x6 x8 x9 x10 x11 x12 x13 x14 x16 x17 x19 x20 x21 x22 x23 x24 x25 x26 x27 x28 x29 x30 x31 x32 x33 x34 x35 x36 n_1  (i32_lo hq0 (by decide))
  by_cases hq1 : 1 < n_1
  · have e_ : sp_orders n_1 = (-2) := by unfold sp_orders; rw [if_pos (Or.inr hq1)]
    rw [e_]
    exact x_orders_hi l g aC aM h1 h5 h7 h15 h18 h37 h38 x2 x3 x4 x6 x8 x9 x10 x11 x12 x13 x14 x16 x17 x19 x20 x21 x22 x23 x24 x25 x26 x27 x28 x29 x30 x31 x32 x33 x34 x35 x36 n_1  (i32_hi hq1 (by decide))
  obtain ⟨j, hj, rfl⟩ := i32_nat 1 (by decide) hq0 hq1
  rcases (show j = 0 ∨ j = 1 by omega) with rfl | rfl
  · have e_ : sp_orders (nI 0) = 0 := by decide
    rw [e_]
    exact x_orders_0 l g aC aM h1 h5 h7 h15 h18 h37 h38 x2 x3 x4 x6 x8 x9 x10 x11 x12 x13 x14 x16 x17 x19 x20 x21 x22 x23 x24 x25 x26 x27 x28 x29 x30 x31 x32 x33 x34 x35 x36 
  · have e_ : sp_orders (nI 1) = 0 := by decide
    rw [e_]
    exact x_orders_1 l g aC aM h1 h5 h7 h15 h18 h37 h38 x2 x3 x4 x6 x8 x9 x10 x11 x12 x13 x14 x16 x17 x19 x20 x21 x22 x23 x24 x25 x26 x27 x28 x29 x30 x31 x32 x33 x34 x35 x36 

theorem x_mark0 (l : Launch) (g : va_G) (aC : Nat → ClassId) (aM : Nat → Nat) (h1 h7 h9 h11 h12 h17 h18 h19 h20 h21 h22 h23 h24 h25 h26 h27 h28 h29 h30 h31 h32 h33 h34 h35 h36 h37 h38 h39 h40 h41 h42 h43 h44 : Nat) (x2 x3 x4 x5 x6 x8 x10 x13 x14 x15 x16 : Value) (n_1 : Int32) : Ct l g aC aM yX10_mark cX10_mark 3 (some .boolean) 3 [.ref h1, .int n_1, .int 0] [(h1, .inr (10, [x2, x3, x4, x5, x6, .ref h7, x8, .ref h9, x10, .ref h11, .ref h12, .int 0, x13, x14, x15, x16])), (h7, .inr (6, [.int 0, .ref h17, .ref h18, .int 0, .int 0, .int 0])), (h17, .inl (aC 0, 5, .inl (fun _ => 0))), (h18, .inl (aC 0, 4, .inl (fun _ => 0))), (h9, .inr (5, [.ref h19, .int 0, .int 0, .ref h20, .int 0])), (h19, .inl (aC 0, 160, .inl (fun _ => 0))), (h20, .inl (aC 0, 8, .inl (fun _ => 0))), (h11, .inl (aC 4, 4, .inr (.inr (.inr (.inr (va_up (va_up (va_up (va_up (fun _ => none) 0 (some h21)) 1 (some h22)) 2 (some h23)) 3 (some h24))))))), (h12, .inl (aC 5, 4, .inr (.inr (.inr (.inr (va_up (va_up (va_up (va_up (fun _ => none) 0 (some h25)) 1 (some h26)) 2 (some h27)) 3 (some h28))))))), (h21, .inr (6, [.int 0, .ref h29, .ref h30, .int 0, .int 0, .int 0])), (h29, .inl (aC 0, 5, .inl (fun _ => 0))), (h30, .inl (aC 0, 4, .inl (fun _ => 0))), (h22, .inr (6, [.int 0, .ref h31, .ref h32, .int 0, .int 0, .int 0])), (h31, .inl (aC 0, 5, .inl (fun _ => 0))), (h32, .inl (aC 0, 4, .inl (fun _ => 0))), (h23, .inr (6, [.int 0, .ref h33, .ref h34, .int 0, .int 0, .int 0])), (h33, .inl (aC 0, 5, .inl (fun _ => 0))), (h34, .inl (aC 0, 4, .inl (fun _ => 0))), (h24, .inr (6, [.int 0, .ref h35, .ref h36, .int 0, .int 0, .int 0])), (h35, .inl (aC 0, 5, .inl (fun _ => 0))), (h36, .inl (aC 0, 4, .inl (fun _ => 0))), (h25, .inr (5, [.ref h37, .int 0, .int 0, .ref h38, .int 0])), (h37, .inl (aC 0, 160, .inl (fun _ => 0))), (h38, .inl (aC 0, 8, .inl (fun _ => 0))), (h26, .inr (5, [.ref h39, .int 0, .int 0, .ref h40, .int 0])), (h39, .inl (aC 0, 160, .inl (fun _ => 0))), (h40, .inl (aC 0, 8, .inl (fun _ => 0))), (h27, .inr (5, [.ref h41, .int 0, .int 0, .ref h42, .int 0])), (h41, .inl (aC 0, 160, .inl (fun _ => 0))), (h42, .inl (aC 0, 8, .inl (fun _ => 0))), (h28, .inr (5, [.ref h43, .int 0, .int 0, .ref h44, .int 0])), (h43, .inl (aC 0, 160, .inl (fun _ => 0))), (h44, .inl (aC 0, 8, .inl (fun _ => 0)))] (QI g (fun (r : Int32) (_ : Unit) => r = (sp_mark0 n_1)) (fun (_ : Unit) => [])) 0 0 := by
  by_cases hq0 : n_1 < 0
  · have e_ : sp_mark0 n_1 = 0 := by unfold sp_mark0; rw [if_pos (Or.inl hq0)]
    rw [e_]
    exact x_mark_lo0 l g aC aM h1 h7 h9 h11 h12 h17 h18 h19 h20 h21 h22 h23 h24 h25 h26 h27 h28 h29 h30 h31 h32 h33 h34 h35 h36 h37 h38 h39 h40 h41 h42 h43 h44 x2 x3 x4 x5 x6 x8 x10 x13 x14 x15 x16 n_1  (i32_lo hq0 (by decide))
  by_cases hq1 : 3 < n_1
  · have e_ : sp_mark0 n_1 = 0 := by unfold sp_mark0; rw [if_pos (Or.inr hq1)]
    rw [e_]
    exact x_mark_hi0 l g aC aM h1 h7 h9 h11 h12 h17 h18 h19 h20 h21 h22 h23 h24 h25 h26 h27 h28 h29 h30 h31 h32 h33 h34 h35 h36 h37 h38 h39 h40 h41 h42 h43 h44 x2 x3 x4 x5 x6 x8 x10 x13 x14 x15 x16 n_1  (i32_hi hq1 (by decide))
  obtain ⟨j, hj, rfl⟩ := i32_nat 3 (by decide) hq0 hq1
  rcases (show j = 0 ∨ j = 1 ∨ j = 2 ∨ j = 3 by omega) with rfl | rfl | rfl | rfl
  · have e_ : sp_mark0 (nI 0) = 1 := by decide
    rw [e_]
    exact x_mark_00 l g aC aM h1 h7 h9 h11 h12 h17 h18 h19 h20 h21 h22 h23 h24 h25 h26 h27 h28 h29 h30 h31 h32 h33 h34 h35 h36 h37 h38 h39 h40 h41 h42 h43 h44 x2 x3 x4 x5 x6 x8 x10 x13 x14 x15 x16 
  · have e_ : sp_mark0 (nI 1) = 1 := by decide
    rw [e_]
    exact x_mark_10 l g aC aM h1 h7 h9 h11 h12 h17 h18 h19 h20 h21 h22 h23 h24 h25 h26 h27 h28 h29 h30 h31 h32 h33 h34 h35 h36 h37 h38 h39 h40 h41 h42 h43 h44 x2 x3 x4 x5 x6 x8 x10 x13 x14 x15 x16 
  · have e_ : sp_mark0 (nI 2) = 1 := by decide
    rw [e_]
    exact x_mark_20 l g aC aM h1 h7 h9 h11 h12 h17 h18 h19 h20 h21 h22 h23 h24 h25 h26 h27 h28 h29 h30 h31 h32 h33 h34 h35 h36 h37 h38 h39 h40 h41 h42 h43 h44 x2 x3 x4 x5 x6 x8 x10 x13 x14 x15 x16 
  · have e_ : sp_mark0 (nI 3) = 1 := by decide
    rw [e_]
    exact x_mark_30 l g aC aM h1 h7 h9 h11 h12 h17 h18 h19 h20 h21 h22 h23 h24 h25 h26 h27 h28 h29 h30 h31 h32 h33 h34 h35 h36 h37 h38 h39 h40 h41 h42 h43 h44 x2 x3 x4 x5 x6 x8 x10 x13 x14 x15 x16 

theorem x_mark1 (l : Launch) (g : va_G) (aC : Nat → ClassId) (aM : Nat → Nat) (h1 h7 h9 h11 h12 h17 h18 h19 h20 h21 h22 h23 h24 h25 h26 h27 h28 h29 h30 h31 h32 h33 h34 h35 h36 h37 h38 h39 h40 h41 h42 h43 h44 : Nat) (x2 x3 x4 x5 x6 x8 x10 x13 x14 x15 x16 : Value) (n_1 : Int32) : Ct l g aC aM yX10_mark cX10_mark 3 (some .boolean) 3 [.ref h1, .int n_1, .int 1] [(h1, .inr (10, [x2, x3, x4, x5, x6, .ref h7, x8, .ref h9, x10, .ref h11, .ref h12, .int 0, x13, x14, x15, x16])), (h7, .inr (6, [.int 0, .ref h17, .ref h18, .int 0, .int 0, .int 0])), (h17, .inl (aC 0, 5, .inl (fun _ => 0))), (h18, .inl (aC 0, 4, .inl (fun _ => 0))), (h9, .inr (5, [.ref h19, .int 0, .int 0, .ref h20, .int 0])), (h19, .inl (aC 0, 160, .inl (fun _ => 0))), (h20, .inl (aC 0, 8, .inl (fun _ => 0))), (h11, .inl (aC 4, 4, .inr (.inr (.inr (.inr (va_up (va_up (va_up (va_up (fun _ => none) 0 (some h21)) 1 (some h22)) 2 (some h23)) 3 (some h24))))))), (h12, .inl (aC 5, 4, .inr (.inr (.inr (.inr (va_up (va_up (va_up (va_up (fun _ => none) 0 (some h25)) 1 (some h26)) 2 (some h27)) 3 (some h28))))))), (h21, .inr (6, [.int 0, .ref h29, .ref h30, .int 0, .int 0, .int 0])), (h29, .inl (aC 0, 5, .inl (fun _ => 0))), (h30, .inl (aC 0, 4, .inl (fun _ => 0))), (h22, .inr (6, [.int 0, .ref h31, .ref h32, .int 0, .int 0, .int 0])), (h31, .inl (aC 0, 5, .inl (fun _ => 0))), (h32, .inl (aC 0, 4, .inl (fun _ => 0))), (h23, .inr (6, [.int 0, .ref h33, .ref h34, .int 0, .int 0, .int 0])), (h33, .inl (aC 0, 5, .inl (fun _ => 0))), (h34, .inl (aC 0, 4, .inl (fun _ => 0))), (h24, .inr (6, [.int 0, .ref h35, .ref h36, .int 0, .int 0, .int 0])), (h35, .inl (aC 0, 5, .inl (fun _ => 0))), (h36, .inl (aC 0, 4, .inl (fun _ => 0))), (h25, .inr (5, [.ref h37, .int 0, .int 0, .ref h38, .int 0])), (h37, .inl (aC 0, 160, .inl (fun _ => 0))), (h38, .inl (aC 0, 8, .inl (fun _ => 0))), (h26, .inr (5, [.ref h39, .int 0, .int 0, .ref h40, .int 0])), (h39, .inl (aC 0, 160, .inl (fun _ => 0))), (h40, .inl (aC 0, 8, .inl (fun _ => 0))), (h27, .inr (5, [.ref h41, .int 0, .int 0, .ref h42, .int 0])), (h41, .inl (aC 0, 160, .inl (fun _ => 0))), (h42, .inl (aC 0, 8, .inl (fun _ => 0))), (h28, .inr (5, [.ref h43, .int 0, .int 0, .ref h44, .int 0])), (h43, .inl (aC 0, 160, .inl (fun _ => 0))), (h44, .inl (aC 0, 8, .inl (fun _ => 0)))] (QI g (fun (r : Int32) (_ : Unit) => r = (sp_mark1 n_1)) (fun (_ : Unit) => [])) 0 0 := by
  by_cases hq0 : n_1 < 0
  · have e_ : sp_mark1 n_1 = 0 := by rfl
    rw [e_]
    exact x_mark_lo1 l g aC aM h1 h7 h9 h11 h12 h17 h18 h19 h20 h21 h22 h23 h24 h25 h26 h27 h28 h29 h30 h31 h32 h33 h34 h35 h36 h37 h38 h39 h40 h41 h42 h43 h44 x2 x3 x4 x5 x6 x8 x10 x13 x14 x15 x16 n_1  (i32_lo hq0 (by decide))
  by_cases hq1 : 3 < n_1
  · have e_ : sp_mark1 n_1 = 0 := by rfl
    rw [e_]
    exact x_mark_hi1 l g aC aM h1 h7 h9 h11 h12 h17 h18 h19 h20 h21 h22 h23 h24 h25 h26 h27 h28 h29 h30 h31 h32 h33 h34 h35 h36 h37 h38 h39 h40 h41 h42 h43 h44 x2 x3 x4 x5 x6 x8 x10 x13 x14 x15 x16 n_1  (i32_hi hq1 (by decide))
  obtain ⟨j, hj, rfl⟩ := i32_nat 3 (by decide) hq0 hq1
  rcases (show j = 0 ∨ j = 1 ∨ j = 2 ∨ j = 3 by omega) with rfl | rfl | rfl | rfl
  · have e_ : sp_mark1 (nI 0) = 0 := by decide
    rw [e_]
    exact x_mark_01 l g aC aM h1 h7 h9 h11 h12 h17 h18 h19 h20 h21 h22 h23 h24 h25 h26 h27 h28 h29 h30 h31 h32 h33 h34 h35 h36 h37 h38 h39 h40 h41 h42 h43 h44 x2 x3 x4 x5 x6 x8 x10 x13 x14 x15 x16 
  · have e_ : sp_mark1 (nI 1) = 0 := by decide
    rw [e_]
    exact x_mark_11 l g aC aM h1 h7 h9 h11 h12 h17 h18 h19 h20 h21 h22 h23 h24 h25 h26 h27 h28 h29 h30 h31 h32 h33 h34 h35 h36 h37 h38 h39 h40 h41 h42 h43 h44 x2 x3 x4 x5 x6 x8 x10 x13 x14 x15 x16 
  · have e_ : sp_mark1 (nI 2) = 0 := by decide
    rw [e_]
    exact x_mark_21 l g aC aM h1 h7 h9 h11 h12 h17 h18 h19 h20 h21 h22 h23 h24 h25 h26 h27 h28 h29 h30 h31 h32 h33 h34 h35 h36 h37 h38 h39 h40 h41 h42 h43 h44 x2 x3 x4 x5 x6 x8 x10 x13 x14 x15 x16 
  · have e_ : sp_mark1 (nI 3) = 0 := by decide
    rw [e_]
    exact x_mark_31 l g aC aM h1 h7 h9 h11 h12 h17 h18 h19 h20 h21 h22 h23 h24 h25 h26 h27 h28 h29 h30 h31 h32 h33 h34 h35 h36 h37 h38 h39 h40 h41 h42 h43 h44 x2 x3 x4 x5 x6 x8 x10 x13 x14 x15 x16 

theorem x_thefts (l : Launch) (g : va_G) (aC : Nat → ClassId) (aM : Nat → Nat) (h1 h5 h7 h18 : Nat) (x2 x3 x4 x6 x8 x9 x10 x11 x12 x13 x14 x15 x16 x17 x19 x20 x21 x22 x23 x24 x25 x26 x27 x28 x29 x30 x31 x32 x33 x34 : Value) (n_1 n_2 n_3 : Int32) : Ct l g aC aM yX10_thefts cX10_thefts 9 (some .int) 2 [.ref h1, .int n_1, .int n_2, .int n_3] [(h1, .inr (10, [x2, x3, x4, .ref h5, x6, .ref h7, x8, x9, x10, x11, x12, x13, x14, x15, x16, x17])), (h5, .inr (8, [.ref h18, x19, x20, x21, x22, x23, x24, x25, x26, x27, x28, x29])), (h18, .inl (aC 0, 5, .inl (fun _ => 0))), (h7, .inr (6, [.int 0, x30, x31, x32, x33, x34]))] (QI g (fun (r : Int32) (_ : Unit) => r = (sp_thefts n_1 n_2 n_3)) (fun (_ : Unit) => [])) 0 0 := by
  by_cases h1lo : n_1 < 0
  · have e_ : sp_thefts n_1 n_2 n_3 = -1 := by unfold sp_thefts; rw [if_pos (Or.inl (Or.inl h1lo))]
    rw [e_]
    exact x_thefts_1lo l g aC aM h1 h5 h7 h18 x2 x3 x4 x6 x8 x9 x10 x11 x12 x13 x14 x15 x16 x17 x19 x20 x21 x22 x23 x24 x25 x26 x27 x28 x29 x30 x31 x32 x33 x34 n_1 n_2 n_3   (i32_lo h1lo (by decide))
  by_cases h1hi : 10 < n_1
  · have e_ : sp_thefts n_1 n_2 n_3 = -1 := by unfold sp_thefts; rw [if_pos (Or.inl (Or.inr h1hi))]
    rw [e_]
    exact x_thefts_1hi l g aC aM h1 h5 h7 h18 x2 x3 x4 x6 x8 x9 x10 x11 x12 x13 x14 x15 x16 x17 x19 x20 x21 x22 x23 x24 x25 x26 x27 x28 x29 x30 x31 x32 x33 x34 n_1 n_2 n_3   (i32_hi h1hi (by decide))
  by_cases h2lo : n_2 < 0
  · have e_ : sp_thefts n_1 n_2 n_3 = -1 := by unfold sp_thefts; rw [if_pos (Or.inr (Or.inl (Or.inl h2lo)))]
    rw [e_]
    exact x_thefts_2lo l g aC aM h1 h5 h7 h18 x2 x3 x4 x6 x8 x9 x10 x11 x12 x13 x14 x15 x16 x17 x19 x20 x21 x22 x23 x24 x25 x26 x27 x28 x29 x30 x31 x32 x33 x34 n_1 n_2 n_3   (i32_ge h1lo) (i32_ge h1hi) (i32_lo h2lo (by decide))
  by_cases h2hi : 5 < n_2
  · have e_ : sp_thefts n_1 n_2 n_3 = -1 := by unfold sp_thefts; rw [if_pos (Or.inr (Or.inl (Or.inr h2hi)))]
    rw [e_]
    exact x_thefts_2hi l g aC aM h1 h5 h7 h18 x2 x3 x4 x6 x8 x9 x10 x11 x12 x13 x14 x15 x16 x17 x19 x20 x21 x22 x23 x24 x25 x26 x27 x28 x29 x30 x31 x32 x33 x34 n_1 n_2 n_3   (i32_ge h1lo) (i32_ge h1hi) (i32_hi h2hi (by decide))
  by_cases h3lo : n_3 < 0
  · have e_ : sp_thefts n_1 n_2 n_3 = -1 := by unfold sp_thefts; rw [if_pos (Or.inr (Or.inr (Or.inl h3lo)))]
    rw [e_]
    exact x_thefts_3lo l g aC aM h1 h5 h7 h18 x2 x3 x4 x6 x8 x9 x10 x11 x12 x13 x14 x15 x16 x17 x19 x20 x21 x22 x23 x24 x25 x26 x27 x28 x29 x30 x31 x32 x33 x34 n_1 n_2 n_3   (i32_ge h1lo) (i32_ge h1hi) (i32_ge h2lo) (i32_ge h2hi) (i32_lo h3lo (by decide))
  by_cases h3hi : 1 < n_3
  · have e_ : sp_thefts n_1 n_2 n_3 = -1 := by unfold sp_thefts; rw [if_pos (Or.inr (Or.inr (Or.inr h3hi)))]
    rw [e_]
    exact x_thefts_3hi l g aC aM h1 h5 h7 h18 x2 x3 x4 x6 x8 x9 x10 x11 x12 x13 x14 x15 x16 x17 x19 x20 x21 x22 x23 x24 x25 x26 x27 x28 x29 x30 x31 x32 x33 x34 n_1 n_2 n_3   (i32_ge h1lo) (i32_ge h1hi) (i32_ge h2lo) (i32_ge h2hi) (i32_hi h3hi (by decide))
  have e_ : sp_thefts n_1 n_2 n_3 = 0 := by
    unfold sp_thefts
    rw [if_neg]
    rintro ((h | h) | (h | h) | (h | h))
    · exact h1lo h
    · exact h1hi h
    · exact h2lo h
    · exact h2hi h
    · exact h3lo h
    · exact h3hi h
  rw [e_]
  exact x_thefts_ok l g aC aM h1 h5 h7 h18 x2 x3 x4 x6 x8 x9 x10 x11 x12 x13 x14 x15 x16 x17 x19 x20 x21 x22 x23 x24 x25 x26 x27 x28 x29 x30 x31 x32 x33 x34 n_1 n_2 n_3  (i32_ge h1lo) (i32_ge h1hi) (i32_ge h2lo) (i32_ge h2hi) (i32_ge h3lo) (i32_ge h3hi)

theorem x_years (l : Launch) (g : va_G) (aC : Nat → ClassId) (aM : Nat → Nat) (h1 h5 h7 h8 h17 h29 h30 h31 h32 : Nat) (x2 x3 x4 x6 x9 x10 x11 x12 x13 x14 x15 x16 x18 x19 x20 x21 x22 x23 x24 x25 x26 x27 x28 : Value) (n_1 n_2 n_3 : Int32) : Ct l g aC aM yX10_years cX10_years 6 (some .int) 5 [.ref h1, .int n_1, .int n_2, .int n_3] [(h1, .inr (10, [x2, x3, x4, .ref h5, x6, .ref h7, .ref h8, x9, x10, x11, x12, x13, x14, x15, x16, .long 0])), (h5, .inr (8, [.ref h17, x18, x19, x20, x21, x22, x23, x24, x25, x26, x27, x28])), (h17, .inl (aC 0, 5, .inl (fun _ => 0))), (h7, .inr (6, [.int 0, .ref h29, .ref h30, .int 0, .int 0, .int 0])), (h29, .inl (aC 0, 5, .inl (fun _ => 0))), (h30, .inl (aC 0, 4, .inl (fun _ => 0))), (h8, .inr (6, [.int 0, .ref h31, .ref h32, .int 0, .int 0, .int 0])), (h31, .inl (aC 0, 5, .inl (fun _ => 0))), (h32, .inl (aC 0, 4, .inl (fun _ => 0)))] (QI g (fun (r : Int32) (_ : Unit) => r = (sp_years n_1 n_2 n_3)) (fun (_ : Unit) => [])) 0 0 := by
  by_cases h1lo : n_1 < 0
  · have e_ : sp_years n_1 n_2 n_3 = -1 := by unfold sp_years; rw [if_pos (Or.inl (Or.inl h1lo))]
    rw [e_]
    exact x_years_1lo l g aC aM h1 h5 h7 h8 h17 h29 h30 h31 h32 x2 x3 x4 x6 x9 x10 x11 x12 x13 x14 x15 x16 x18 x19 x20 x21 x22 x23 x24 x25 x26 x27 x28 n_1 n_2 n_3   (i32_lo h1lo (by decide))
  by_cases h1hi : 9999 < n_1
  · have e_ : sp_years n_1 n_2 n_3 = -1 := by unfold sp_years; rw [if_pos (Or.inl (Or.inr h1hi))]
    rw [e_]
    exact x_years_1hi l g aC aM h1 h5 h7 h8 h17 h29 h30 h31 h32 x2 x3 x4 x6 x9 x10 x11 x12 x13 x14 x15 x16 x18 x19 x20 x21 x22 x23 x24 x25 x26 x27 x28 n_1 n_2 n_3   (i32_hi h1hi (by decide))
  by_cases h2lo : n_2 < 1
  · have e_ : sp_years n_1 n_2 n_3 = -1 := by unfold sp_years; rw [if_pos (Or.inr (Or.inl (Or.inl h2lo)))]
    rw [e_]
    exact x_years_2lo l g aC aM h1 h5 h7 h8 h17 h29 h30 h31 h32 x2 x3 x4 x6 x9 x10 x11 x12 x13 x14 x15 x16 x18 x19 x20 x21 x22 x23 x24 x25 x26 x27 x28 n_1 n_2 n_3   (i32_ge h1lo) (i32_ge h1hi) (i32_lo h2lo (by decide))
  by_cases h2hi : 100 < n_2
  · have e_ : sp_years n_1 n_2 n_3 = -1 := by unfold sp_years; rw [if_pos (Or.inr (Or.inl (Or.inr h2hi)))]
    rw [e_]
    exact x_years_2hi l g aC aM h1 h5 h7 h8 h17 h29 h30 h31 h32 x2 x3 x4 x6 x9 x10 x11 x12 x13 x14 x15 x16 x18 x19 x20 x21 x22 x23 x24 x25 x26 x27 x28 n_1 n_2 n_3   (i32_ge h1lo) (i32_ge h1hi) (i32_hi h2hi (by decide))
  by_cases h3lo : n_3 < 0
  · have e_ : sp_years n_1 n_2 n_3 = -1 := by unfold sp_years; rw [if_pos (Or.inr (Or.inr (Or.inl h3lo)))]
    rw [e_]
    exact x_years_3lo l g aC aM h1 h5 h7 h8 h17 h29 h30 h31 h32 x2 x3 x4 x6 x9 x10 x11 x12 x13 x14 x15 x16 x18 x19 x20 x21 x22 x23 x24 x25 x26 x27 x28 n_1 n_2 n_3   (i32_ge h1lo) (i32_ge h1hi) (i32_ge h2lo) (i32_ge h2hi) (i32_lo h3lo (by decide))
  by_cases h3hi : 2 < n_3
  · have e_ : sp_years n_1 n_2 n_3 = -1 := by unfold sp_years; rw [if_pos (Or.inr (Or.inr (Or.inr h3hi)))]
    rw [e_]
    exact x_years_3hi l g aC aM h1 h5 h7 h8 h17 h29 h30 h31 h32 x2 x3 x4 x6 x9 x10 x11 x12 x13 x14 x15 x16 x18 x19 x20 x21 x22 x23 x24 x25 x26 x27 x28 n_1 n_2 n_3   (i32_ge h1lo) (i32_ge h1hi) (i32_ge h2lo) (i32_ge h2hi) (i32_hi h3hi (by decide))
  have e_ : sp_years n_1 n_2 n_3 = 0 := by
    unfold sp_years
    rw [if_neg]
    rintro ((h | h) | (h | h) | (h | h))
    · exact h1lo h
    · exact h1hi h
    · exact h2lo h
    · exact h2hi h
    · exact h3lo h
    · exact h3hi h
  rw [e_]
  obtain ⟨nn, hn2, rfl⟩ := i32_nat (x := n_2) 100 (by decide) (fun h => h2lo (by simp only [Int32.lt_iff_toInt_lt, show (0 : Int32).toInt = 0 by decide, show (1 : Int32).toInt = 1 by decide] at h ⊢; omega)) h2hi
  have hn1 : 1 ≤ nn := by
    rcases Nat.lt_or_ge nn 1 with h | h
    · exact absurd ((nI_ltI (a := nn) (b := 1) (by omega) (by decide)).mpr h) h2lo
    · exact h
  exact x_years_ok l g aC aM h1 h5 h7 h8 h17 h29 h30 h31 h32 x2 x3 x4 x6 x9 x10 x11 x12 x13 x14 x15 x16 x18 x19 x20 x21 x22 x23 x24 x25 x26 x27 x28 n_1 n_3 nn  (i32_ge h1lo) (i32_ge h1hi) (i32_ge h3lo) (i32_ge h3hi) hn1 hn2

theorem m_count (l : Launch) (g : va_G) (aC : Nat → ClassId) (aM : Nat → Nat) (h1 h10 h46 h51 h55 : Nat) (x2 x3 x4 x5 x6 x7 x8 x9 x11 x12 x13 x14 x15 x16 x17 x18 x19 x20 x21 x22 x23 x24 x25 x26 x27 x28 x29 x30 x31 x32 x33 x34 x35 x36 x37 x38 x39 x40 x41 x42 x43 x44 x45 x47 x48 x49 x50 x52 x53 x54 x56 x57 x58 x59 x60 x61 x62 x63 x64 x65 x66 x67 x68 x69 x70 x71 x72 : Value) (n_1 : Int32) : Ct l g aC aM yX11_count cX11_count 2 (some .int) 2 [.ref h1, .int n_1] [(h1, .inr (11, [.int 0, .int 0, x2, x3, x4, x5, x6, x7, x8, x9, .ref h10, x11, x12, x13, x14, x15, x16, x17, x18, x19, x20, x21, x22, x23, x24, x25, x26, x27, x28, x29, x30, x31, x32, x33, x34, x35, x36, x37, x38, x39, x40, x41, x42, x43, x44, x45, .ref h46, x47, x48, x49, x50, .ref h51, x52, x53, x54, .ref h55, x56, x57, x58, x59, .int 0, x60, x61, x62, x63, x64, x65, x66, x67, x68, x69, x70, x71, x72])), (h10, .inl (aC 0, 14, .inl (fun _ => 0))), (h46, .inl (aC 0, 6, .inl (fun _ => 0))), (h51, .inl (aC 0, 5, .inl (fun _ => 0))), (h55, .inl (aC 0, 13, .inl (fun _ => 0)))] (QI g (fun (r : Int32) (_ : Unit) => r = (sp_count n_1)) (fun (_ : Unit) => [])) 0 0 := by
  by_cases hq0 : n_1 < 0
  · have e_ : sp_count n_1 = (-1) := by unfold sp_count; rw [if_pos (Or.inl hq0)]
    rw [e_]
    exact m_count_lo l g aC aM h1 h10 h46 h51 h55 x2 x3 x4 x5 x6 x7 x8 x9 x11 x12 x13 x14 x15 x16 x17 x18 x19 x20 x21 x22 x23 x24 x25 x26 x27 x28 x29 x30 x31 x32 x33 x34 x35 x36 x37 x38 x39 x40 x41 x42 x43 x44 x45 x47 x48 x49 x50 x52 x53 x54 x56 x57 x58 x59 x60 x61 x62 x63 x64 x65 x66 x67 x68 x69 x70 x71 x72 n_1  (i32_lo hq0 (by decide))
  by_cases hq1 : 12 < n_1
  · have e_ : sp_count n_1 = (-1) := by unfold sp_count; rw [if_pos (Or.inr hq1)]
    rw [e_]
    exact m_count_hi l g aC aM h1 h10 h46 h51 h55 x2 x3 x4 x5 x6 x7 x8 x9 x11 x12 x13 x14 x15 x16 x17 x18 x19 x20 x21 x22 x23 x24 x25 x26 x27 x28 x29 x30 x31 x32 x33 x34 x35 x36 x37 x38 x39 x40 x41 x42 x43 x44 x45 x47 x48 x49 x50 x52 x53 x54 x56 x57 x58 x59 x60 x61 x62 x63 x64 x65 x66 x67 x68 x69 x70 x71 x72 n_1  (i32_hi hq1 (by decide))
  obtain ⟨j, hj, rfl⟩ := i32_nat 12 (by decide) hq0 hq1
  rcases (show j = 0 ∨ j = 1 ∨ j = 2 ∨ j = 3 ∨ j = 4 ∨ j = 5 ∨ j = 6 ∨ j = 7 ∨ j = 8 ∨ j = 9 ∨ j = 10 ∨ j = 11 ∨ j = 12 by omega) with rfl | rfl | rfl | rfl | rfl | rfl | rfl | rfl | rfl | rfl | rfl | rfl | rfl
  · have e_ : sp_count (nI 0) = 0 := by decide
    rw [e_]
    exact m_count_0 l g aC aM h1 h10 h46 h51 h55 x2 x3 x4 x5 x6 x7 x8 x9 x11 x12 x13 x14 x15 x16 x17 x18 x19 x20 x21 x22 x23 x24 x25 x26 x27 x28 x29 x30 x31 x32 x33 x34 x35 x36 x37 x38 x39 x40 x41 x42 x43 x44 x45 x47 x48 x49 x50 x52 x53 x54 x56 x57 x58 x59 x60 x61 x62 x63 x64 x65 x66 x67 x68 x69 x70 x71 x72 
  · have e_ : sp_count (nI 1) = 0 := by decide
    rw [e_]
    exact m_count_1 l g aC aM h1 h10 h46 h51 h55 x2 x3 x4 x5 x6 x7 x8 x9 x11 x12 x13 x14 x15 x16 x17 x18 x19 x20 x21 x22 x23 x24 x25 x26 x27 x28 x29 x30 x31 x32 x33 x34 x35 x36 x37 x38 x39 x40 x41 x42 x43 x44 x45 x47 x48 x49 x50 x52 x53 x54 x56 x57 x58 x59 x60 x61 x62 x63 x64 x65 x66 x67 x68 x69 x70 x71 x72 
  · have e_ : sp_count (nI 2) = 0 := by decide
    rw [e_]
    exact m_count_2 l g aC aM h1 h10 h46 h51 h55 x2 x3 x4 x5 x6 x7 x8 x9 x11 x12 x13 x14 x15 x16 x17 x18 x19 x20 x21 x22 x23 x24 x25 x26 x27 x28 x29 x30 x31 x32 x33 x34 x35 x36 x37 x38 x39 x40 x41 x42 x43 x44 x45 x47 x48 x49 x50 x52 x53 x54 x56 x57 x58 x59 x60 x61 x62 x63 x64 x65 x66 x67 x68 x69 x70 x71 x72 
  · have e_ : sp_count (nI 3) = 0 := by decide
    rw [e_]
    exact m_count_3 l g aC aM h1 h10 h46 h51 h55 x2 x3 x4 x5 x6 x7 x8 x9 x11 x12 x13 x14 x15 x16 x17 x18 x19 x20 x21 x22 x23 x24 x25 x26 x27 x28 x29 x30 x31 x32 x33 x34 x35 x36 x37 x38 x39 x40 x41 x42 x43 x44 x45 x47 x48 x49 x50 x52 x53 x54 x56 x57 x58 x59 x60 x61 x62 x63 x64 x65 x66 x67 x68 x69 x70 x71 x72 
  · have e_ : sp_count (nI 4) = 0 := by decide
    rw [e_]
    exact m_count_4 l g aC aM h1 h10 h46 h51 h55 x2 x3 x4 x5 x6 x7 x8 x9 x11 x12 x13 x14 x15 x16 x17 x18 x19 x20 x21 x22 x23 x24 x25 x26 x27 x28 x29 x30 x31 x32 x33 x34 x35 x36 x37 x38 x39 x40 x41 x42 x43 x44 x45 x47 x48 x49 x50 x52 x53 x54 x56 x57 x58 x59 x60 x61 x62 x63 x64 x65 x66 x67 x68 x69 x70 x71 x72 
  · have e_ : sp_count (nI 5) = 0 := by decide
    rw [e_]
    exact m_count_5 l g aC aM h1 h10 h46 h51 h55 x2 x3 x4 x5 x6 x7 x8 x9 x11 x12 x13 x14 x15 x16 x17 x18 x19 x20 x21 x22 x23 x24 x25 x26 x27 x28 x29 x30 x31 x32 x33 x34 x35 x36 x37 x38 x39 x40 x41 x42 x43 x44 x45 x47 x48 x49 x50 x52 x53 x54 x56 x57 x58 x59 x60 x61 x62 x63 x64 x65 x66 x67 x68 x69 x70 x71 x72 
  · have e_ : sp_count (nI 6) = 0 := by decide
    rw [e_]
    exact m_count_6 l g aC aM h1 h10 h46 h51 h55 x2 x3 x4 x5 x6 x7 x8 x9 x11 x12 x13 x14 x15 x16 x17 x18 x19 x20 x21 x22 x23 x24 x25 x26 x27 x28 x29 x30 x31 x32 x33 x34 x35 x36 x37 x38 x39 x40 x41 x42 x43 x44 x45 x47 x48 x49 x50 x52 x53 x54 x56 x57 x58 x59 x60 x61 x62 x63 x64 x65 x66 x67 x68 x69 x70 x71 x72 
  · have e_ : sp_count (nI 7) = 0 := by decide
    rw [e_]
    exact m_count_7 l g aC aM h1 h10 h46 h51 h55 x2 x3 x4 x5 x6 x7 x8 x9 x11 x12 x13 x14 x15 x16 x17 x18 x19 x20 x21 x22 x23 x24 x25 x26 x27 x28 x29 x30 x31 x32 x33 x34 x35 x36 x37 x38 x39 x40 x41 x42 x43 x44 x45 x47 x48 x49 x50 x52 x53 x54 x56 x57 x58 x59 x60 x61 x62 x63 x64 x65 x66 x67 x68 x69 x70 x71 x72 
  · have e_ : sp_count (nI 8) = 0 := by decide
    rw [e_]
    exact m_count_8 l g aC aM h1 h10 h46 h51 h55 x2 x3 x4 x5 x6 x7 x8 x9 x11 x12 x13 x14 x15 x16 x17 x18 x19 x20 x21 x22 x23 x24 x25 x26 x27 x28 x29 x30 x31 x32 x33 x34 x35 x36 x37 x38 x39 x40 x41 x42 x43 x44 x45 x47 x48 x49 x50 x52 x53 x54 x56 x57 x58 x59 x60 x61 x62 x63 x64 x65 x66 x67 x68 x69 x70 x71 x72 
  · have e_ : sp_count (nI 9) = 0 := by decide
    rw [e_]
    exact m_count_9 l g aC aM h1 h10 h46 h51 h55 x2 x3 x4 x5 x6 x7 x8 x9 x11 x12 x13 x14 x15 x16 x17 x18 x19 x20 x21 x22 x23 x24 x25 x26 x27 x28 x29 x30 x31 x32 x33 x34 x35 x36 x37 x38 x39 x40 x41 x42 x43 x44 x45 x47 x48 x49 x50 x52 x53 x54 x56 x57 x58 x59 x60 x61 x62 x63 x64 x65 x66 x67 x68 x69 x70 x71 x72 
  · have e_ : sp_count (nI 10) = 0 := by decide
    rw [e_]
    exact m_count_10 l g aC aM h1 h10 h46 h51 h55 x2 x3 x4 x5 x6 x7 x8 x9 x11 x12 x13 x14 x15 x16 x17 x18 x19 x20 x21 x22 x23 x24 x25 x26 x27 x28 x29 x30 x31 x32 x33 x34 x35 x36 x37 x38 x39 x40 x41 x42 x43 x44 x45 x47 x48 x49 x50 x52 x53 x54 x56 x57 x58 x59 x60 x61 x62 x63 x64 x65 x66 x67 x68 x69 x70 x71 x72 
  · have e_ : sp_count (nI 11) = 0 := by decide
    rw [e_]
    exact m_count_11 l g aC aM h1 h10 h46 h51 h55 x2 x3 x4 x5 x6 x7 x8 x9 x11 x12 x13 x14 x15 x16 x17 x18 x19 x20 x21 x22 x23 x24 x25 x26 x27 x28 x29 x30 x31 x32 x33 x34 x35 x36 x37 x38 x39 x40 x41 x42 x43 x44 x45 x47 x48 x49 x50 x52 x53 x54 x56 x57 x58 x59 x60 x61 x62 x63 x64 x65 x66 x67 x68 x69 x70 x71 x72 
  · have e_ : sp_count (nI 12) = 0 := by decide
    rw [e_]
    exact m_count_12 l g aC aM h1 h10 h46 h51 h55 x2 x3 x4 x5 x6 x7 x8 x9 x11 x12 x13 x14 x15 x16 x17 x18 x19 x20 x21 x22 x23 x24 x25 x26 x27 x28 x29 x30 x31 x32 x33 x34 x35 x36 x37 x38 x39 x40 x41 x42 x43 x44 x45 x47 x48 x49 x50 x52 x53 x54 x56 x57 x58 x59 x60 x61 x62 x63 x64 x65 x66 x67 x68 x69 x70 x71 x72 

theorem m_judged (l : Launch) (g : va_G) (aC : Nat → ClassId) (aM : Nat → Nat) (h1 h11 h47 h56 h57 : Nat) (x2 x3 x4 x5 x6 x7 x8 x9 x10 x12 x13 x14 x15 x16 x17 x18 x19 x20 x21 x22 x23 x24 x25 x26 x27 x28 x29 x30 x31 x32 x33 x34 x35 x36 x37 x38 x39 x40 x41 x42 x43 x44 x45 x46 x48 x49 x50 x51 x52 x53 x54 x55 x58 x59 x60 x61 x62 x63 x64 x65 x66 x67 x68 x69 x70 x71 x72 x73 x74 : Value) (n_1 : Int32) : Ct l g aC aM yX11_judged cX11_judged 6 (some .int) 3 [.ref h1, .int n_1] [(h1, .inr (11, [.int 0, x2, x3, x4, x5, x6, x7, x8, x9, x10, .ref h11, x12, x13, x14, x15, x16, x17, x18, x19, x20, x21, x22, x23, x24, x25, x26, x27, x28, x29, x30, x31, x32, x33, x34, x35, x36, x37, x38, x39, x40, x41, x42, x43, x44, x45, x46, .ref h47, x48, x49, x50, x51, x52, x53, x54, x55, .ref h56, .ref h57, x58, x59, x60, x61, x62, x63, x64, x65, x66, x67, x68, x69, x70, x71, x72, x73, x74])), (h11, .inl (aC 0, 14, .inl (fun _ => 0))), (h47, .inl (aC 0, 6, .inl (fun _ => 0))), (h56, .inl (aC 0, 13, .inl (fun _ => 0))), (h57, .inl (aC 0, 13, .inl (fun _ => 0)))] (QI g (fun (r : Int32) (_ : Unit) => r = (sp_judged n_1)) (fun (_ : Unit) => [])) 0 0 := by
  by_cases hq0 : n_1 < 0
  · have e_ : sp_judged n_1 = (-2) := by unfold sp_judged; rw [if_pos (Or.inl hq0)]
    rw [e_]
    exact m_judged_lo l g aC aM h1 h11 h47 h56 h57 x2 x3 x4 x5 x6 x7 x8 x9 x10 x12 x13 x14 x15 x16 x17 x18 x19 x20 x21 x22 x23 x24 x25 x26 x27 x28 x29 x30 x31 x32 x33 x34 x35 x36 x37 x38 x39 x40 x41 x42 x43 x44 x45 x46 x48 x49 x50 x51 x52 x53 x54 x55 x58 x59 x60 x61 x62 x63 x64 x65 x66 x67 x68 x69 x70 x71 x72 x73 x74 n_1  (i32_lo hq0 (by decide))
  by_cases hq1 : 2 < n_1
  · have e_ : sp_judged n_1 = (-2) := by unfold sp_judged; rw [if_pos (Or.inr hq1)]
    rw [e_]
    exact m_judged_hi l g aC aM h1 h11 h47 h56 h57 x2 x3 x4 x5 x6 x7 x8 x9 x10 x12 x13 x14 x15 x16 x17 x18 x19 x20 x21 x22 x23 x24 x25 x26 x27 x28 x29 x30 x31 x32 x33 x34 x35 x36 x37 x38 x39 x40 x41 x42 x43 x44 x45 x46 x48 x49 x50 x51 x52 x53 x54 x55 x58 x59 x60 x61 x62 x63 x64 x65 x66 x67 x68 x69 x70 x71 x72 x73 x74 n_1  (i32_hi hq1 (by decide))
  obtain ⟨j, hj, rfl⟩ := i32_nat 2 (by decide) hq0 hq1
  rcases (show j = 0 ∨ j = 1 ∨ j = 2 by omega) with rfl | rfl | rfl
  · have e_ : sp_judged (nI 0) = (-1) := by decide
    rw [e_]
    exact m_judged_0 l g aC aM h1 h11 h47 h56 h57 x2 x3 x4 x5 x6 x7 x8 x9 x10 x12 x13 x14 x15 x16 x17 x18 x19 x20 x21 x22 x23 x24 x25 x26 x27 x28 x29 x30 x31 x32 x33 x34 x35 x36 x37 x38 x39 x40 x41 x42 x43 x44 x45 x46 x48 x49 x50 x51 x52 x53 x54 x55 x58 x59 x60 x61 x62 x63 x64 x65 x66 x67 x68 x69 x70 x71 x72 x73 x74 
  · have e_ : sp_judged (nI 1) = (-1) := by decide
    rw [e_]
    exact m_judged_1 l g aC aM h1 h11 h47 h56 h57 x2 x3 x4 x5 x6 x7 x8 x9 x10 x12 x13 x14 x15 x16 x17 x18 x19 x20 x21 x22 x23 x24 x25 x26 x27 x28 x29 x30 x31 x32 x33 x34 x35 x36 x37 x38 x39 x40 x41 x42 x43 x44 x45 x46 x48 x49 x50 x51 x52 x53 x54 x55 x58 x59 x60 x61 x62 x63 x64 x65 x66 x67 x68 x69 x70 x71 x72 x73 x74 
  · have e_ : sp_judged (nI 2) = 0 := by decide
    rw [e_]
    exact m_judged_2 l g aC aM h1 h11 h47 h56 h57 x2 x3 x4 x5 x6 x7 x8 x9 x10 x12 x13 x14 x15 x16 x17 x18 x19 x20 x21 x22 x23 x24 x25 x26 x27 x28 x29 x30 x31 x32 x33 x34 x35 x36 x37 x38 x39 x40 x41 x42 x43 x44 x45 x46 x48 x49 x50 x51 x52 x53 x54 x55 x58 x59 x60 x61 x62 x63 x64 x65 x66 x67 x68 x69 x70 x71 x72 x73 x74 

theorem m_plan (l : Launch) (g : va_G) (aC : Nat → ClassId) (aM : Nat → Nat) (h1 h11 h56 : Nat) (x2 x3 x4 x5 x6 x7 x8 x9 x10 x12 x13 x14 x15 x16 x17 x18 x19 x20 x21 x22 x23 x24 x25 x26 x27 x28 x29 x30 x31 x32 x33 x34 x35 x36 x37 x38 x39 x40 x41 x42 x43 x44 x45 x46 x47 x48 x49 x50 x51 x52 x53 x54 x55 x57 x58 x59 x60 x61 x62 x63 x64 x65 x66 x67 x68 x69 x70 x71 x72 x73 x74 : Value) (n_1 : Int32) : Ct l g aC aM yX11_plan cX11_plan 5 (some .int) 2 [.ref h1, .int n_1] [(h1, .inr (11, [.int 0, x2, x3, x4, x5, x6, x7, x8, x9, x10, .ref h11, x12, x13, x14, x15, x16, x17, x18, x19, x20, x21, x22, x23, x24, x25, x26, x27, x28, x29, x30, x31, x32, x33, x34, x35, x36, x37, x38, x39, x40, x41, x42, x43, x44, x45, x46, x47, x48, x49, x50, x51, x52, x53, x54, x55, .ref h56, x57, x58, x59, x60, x61, x62, x63, x64, x65, x66, x67, x68, x69, x70, x71, x72, x73, x74])), (h11, .inl (aC 0, 14, .inl (fun _ => 0))), (h56, .inl (aC 0, 13, .inl (fun _ => 0)))] (QI g (fun (r : Int32) (_ : Unit) => r = (sp_plan n_1)) (fun (_ : Unit) => [])) 0 0 := by
  by_cases hq0 : n_1 < 0
  · have e_ : sp_plan n_1 = (-1) := by unfold sp_plan; rw [if_pos (Or.inl hq0)]
    rw [e_]
    exact m_plan_lo l g aC aM h1 h11 h56 x2 x3 x4 x5 x6 x7 x8 x9 x10 x12 x13 x14 x15 x16 x17 x18 x19 x20 x21 x22 x23 x24 x25 x26 x27 x28 x29 x30 x31 x32 x33 x34 x35 x36 x37 x38 x39 x40 x41 x42 x43 x44 x45 x46 x47 x48 x49 x50 x51 x52 x53 x54 x55 x57 x58 x59 x60 x61 x62 x63 x64 x65 x66 x67 x68 x69 x70 x71 x72 x73 x74 n_1  (i32_lo hq0 (by decide))
  by_cases hq1 : 1 < n_1
  · have e_ : sp_plan n_1 = (-1) := by unfold sp_plan; rw [if_pos (Or.inr hq1)]
    rw [e_]
    exact m_plan_hi l g aC aM h1 h11 h56 x2 x3 x4 x5 x6 x7 x8 x9 x10 x12 x13 x14 x15 x16 x17 x18 x19 x20 x21 x22 x23 x24 x25 x26 x27 x28 x29 x30 x31 x32 x33 x34 x35 x36 x37 x38 x39 x40 x41 x42 x43 x44 x45 x46 x47 x48 x49 x50 x51 x52 x53 x54 x55 x57 x58 x59 x60 x61 x62 x63 x64 x65 x66 x67 x68 x69 x70 x71 x72 x73 x74 n_1  (i32_hi hq1 (by decide))
  obtain ⟨j, hj, rfl⟩ := i32_nat 1 (by decide) hq0 hq1
  rcases (show j = 0 ∨ j = 1 by omega) with rfl | rfl
  · have e_ : sp_plan (nI 0) = 0 := by decide
    rw [e_]
    exact m_plan_0 l g aC aM h1 h11 h56 x2 x3 x4 x5 x6 x7 x8 x9 x10 x12 x13 x14 x15 x16 x17 x18 x19 x20 x21 x22 x23 x24 x25 x26 x27 x28 x29 x30 x31 x32 x33 x34 x35 x36 x37 x38 x39 x40 x41 x42 x43 x44 x45 x46 x47 x48 x49 x50 x51 x52 x53 x54 x55 x57 x58 x59 x60 x61 x62 x63 x64 x65 x66 x67 x68 x69 x70 x71 x72 x73 x74 
  · have e_ : sp_plan (nI 1) = 0 := by decide
    rw [e_]
    exact m_plan_1 l g aC aM h1 h11 h56 x2 x3 x4 x5 x6 x7 x8 x9 x10 x12 x13 x14 x15 x16 x17 x18 x19 x20 x21 x22 x23 x24 x25 x26 x27 x28 x29 x30 x31 x32 x33 x34 x35 x36 x37 x38 x39 x40 x41 x42 x43 x44 x45 x46 x47 x48 x49 x50 x51 x52 x53 x54 x55 x57 x58 x59 x60 x61 x62 x63 x64 x65 x66 x67 x68 x69 x70 x71 x72 x73 x74 

theorem m_fits (l : Launch) (g : va_G) (aC : Nat → ClassId) (aM : Nat → Nat) (h1 h11 h52 : Nat) (x2 x3 x4 x5 x6 x7 x8 x9 x10 x12 x13 x14 x15 x16 x17 x18 x19 x20 x21 x22 x23 x24 x25 x26 x27 x28 x29 x30 x31 x32 x33 x34 x35 x36 x37 x38 x39 x40 x41 x42 x43 x44 x45 x46 x47 x48 x49 x50 x51 x53 x54 x55 x56 x57 x58 x59 x60 x61 x62 x63 x64 x65 x66 x67 x68 x69 x70 x71 x72 x73 x74 : Value) (n_1 : Int32) : Ct l g aC aM yX11_fits cX11_fits 7 (some .int) 2 [.ref h1, .int n_1] [(h1, .inr (11, [.int 0, x2, x3, x4, x5, x6, x7, x8, x9, x10, .ref h11, x12, x13, x14, x15, x16, x17, x18, x19, x20, x21, x22, x23, x24, x25, x26, x27, x28, x29, x30, x31, x32, x33, x34, x35, x36, x37, x38, x39, x40, x41, x42, x43, x44, x45, x46, x47, x48, x49, x50, x51, .ref h52, x53, x54, x55, x56, x57, x58, x59, x60, x61, x62, x63, x64, x65, x66, x67, x68, x69, x70, x71, x72, x73, x74])), (h11, .inl (aC 0, 14, .inl (fun _ => 0))), (h52, .inl (aC 0, 5, .inl (fun _ => 0)))] (QI g (fun (r : Int32) (_ : Unit) => r = (sp_fits n_1)) (fun (_ : Unit) => [])) 0 0 := by
  by_cases hq0 : n_1 < 0
  · have e_ : sp_fits n_1 = (-1) := by unfold sp_fits; rw [if_pos (Or.inl hq0)]
    rw [e_]
    exact m_fits_lo l g aC aM h1 h11 h52 x2 x3 x4 x5 x6 x7 x8 x9 x10 x12 x13 x14 x15 x16 x17 x18 x19 x20 x21 x22 x23 x24 x25 x26 x27 x28 x29 x30 x31 x32 x33 x34 x35 x36 x37 x38 x39 x40 x41 x42 x43 x44 x45 x46 x47 x48 x49 x50 x51 x53 x54 x55 x56 x57 x58 x59 x60 x61 x62 x63 x64 x65 x66 x67 x68 x69 x70 x71 x72 x73 x74 n_1  (i32_lo hq0 (by decide))
  by_cases hq1 : 3 < n_1
  · have e_ : sp_fits n_1 = (-1) := by unfold sp_fits; rw [if_pos (Or.inr hq1)]
    rw [e_]
    exact m_fits_hi l g aC aM h1 h11 h52 x2 x3 x4 x5 x6 x7 x8 x9 x10 x12 x13 x14 x15 x16 x17 x18 x19 x20 x21 x22 x23 x24 x25 x26 x27 x28 x29 x30 x31 x32 x33 x34 x35 x36 x37 x38 x39 x40 x41 x42 x43 x44 x45 x46 x47 x48 x49 x50 x51 x53 x54 x55 x56 x57 x58 x59 x60 x61 x62 x63 x64 x65 x66 x67 x68 x69 x70 x71 x72 x73 x74 n_1  (i32_hi hq1 (by decide))
  obtain ⟨j, hj, rfl⟩ := i32_nat 3 (by decide) hq0 hq1
  rcases (show j = 0 ∨ j = 1 ∨ j = 2 ∨ j = 3 by omega) with rfl | rfl | rfl | rfl
  · have e_ : sp_fits (nI 0) = 1 := by decide
    rw [e_]
    exact m_fits_0 l g aC aM h1 h11 h52 x2 x3 x4 x5 x6 x7 x8 x9 x10 x12 x13 x14 x15 x16 x17 x18 x19 x20 x21 x22 x23 x24 x25 x26 x27 x28 x29 x30 x31 x32 x33 x34 x35 x36 x37 x38 x39 x40 x41 x42 x43 x44 x45 x46 x47 x48 x49 x50 x51 x53 x54 x55 x56 x57 x58 x59 x60 x61 x62 x63 x64 x65 x66 x67 x68 x69 x70 x71 x72 x73 x74 
  · have e_ : sp_fits (nI 1) = 0 := by decide
    rw [e_]
    exact m_fits_1 l g aC aM h1 h11 h52 x2 x3 x4 x5 x6 x7 x8 x9 x10 x12 x13 x14 x15 x16 x17 x18 x19 x20 x21 x22 x23 x24 x25 x26 x27 x28 x29 x30 x31 x32 x33 x34 x35 x36 x37 x38 x39 x40 x41 x42 x43 x44 x45 x46 x47 x48 x49 x50 x51 x53 x54 x55 x56 x57 x58 x59 x60 x61 x62 x63 x64 x65 x66 x67 x68 x69 x70 x71 x72 x73 x74 
  · have e_ : sp_fits (nI 2) = 0 := by decide
    rw [e_]
    exact m_fits_2 l g aC aM h1 h11 h52 x2 x3 x4 x5 x6 x7 x8 x9 x10 x12 x13 x14 x15 x16 x17 x18 x19 x20 x21 x22 x23 x24 x25 x26 x27 x28 x29 x30 x31 x32 x33 x34 x35 x36 x37 x38 x39 x40 x41 x42 x43 x44 x45 x46 x47 x48 x49 x50 x51 x53 x54 x55 x56 x57 x58 x59 x60 x61 x62 x63 x64 x65 x66 x67 x68 x69 x70 x71 x72 x73 x74 
  · have e_ : sp_fits (nI 3) = 0 := by decide
    rw [e_]
    exact m_fits_3 l g aC aM h1 h11 h52 x2 x3 x4 x5 x6 x7 x8 x9 x10 x12 x13 x14 x15 x16 x17 x18 x19 x20 x21 x22 x23 x24 x25 x26 x27 x28 x29 x30 x31 x32 x33 x34 x35 x36 x37 x38 x39 x40 x41 x42 x43 x44 x45 x46 x47 x48 x49 x50 x51 x53 x54 x55 x56 x57 x58 x59 x60 x61 x62 x63 x64 x65 x66 x67 x68 x69 x70 x71 x72 x73 x74 

theorem m_orders (l : Launch) (g : va_G) (aC : Nat → ClassId) (aM : Nat → Nat) (h1 h11 h56 h67 : Nat) (x2 x3 x4 x5 x6 x7 x8 x9 x10 x12 x13 x14 x15 x16 x17 x18 x19 x20 x21 x22 x23 x24 x25 x26 x27 x28 x29 x30 x31 x32 x33 x34 x35 x36 x37 x38 x39 x40 x41 x42 x43 x44 x45 x46 x47 x48 x49 x50 x51 x52 x53 x54 x55 x57 x58 x59 x60 x61 x62 x63 x64 x65 x66 x68 x69 x70 x71 x72 : Value) (n_1 : Int32) : Ct l g aC aM yX11_orders cX11_orders 5 (some .int) 2 [.ref h1, .int n_1] [(h1, .inr (11, [.int 0, x2, x3, x4, x5, x6, x7, x8, x9, x10, .ref h11, x12, x13, x14, x15, x16, x17, x18, x19, x20, x21, x22, x23, x24, x25, x26, x27, x28, x29, x30, x31, x32, x33, x34, x35, x36, x37, x38, x39, x40, x41, x42, x43, x44, x45, x46, x47, x48, x49, x50, x51, x52, x53, x54, x55, .ref h56, x57, x58, x59, x60, x61, x62, x63, x64, x65, x66, .ref h67, x68, x69, .int 0, .int 0, x70, x71, x72])), (h11, .inl (aC 0, 14, .inl (fun _ => 0))), (h56, .inl (aC 0, 13, .inl (fun _ => 0))), (h67, .inl (aC 0, 10, .inl (fun _ => 0)))] (QI g (fun (r : Int32) (_ : Unit) => r = (sp_orders n_1)) (fun (_ : Unit) => [])) 0 0 := by
  by_cases hq0 : n_1 < 0
  · have e_ : sp_orders n_1 = (-2) := by unfold sp_orders; rw [if_pos (Or.inl hq0)]
    rw [e_]
    exact m_orders_lo l g aC aM h1 h11 h56 h67 x2 x3 x4 x5 x6 x7 x8 x9 x10 x12 x13 x14 x15 x16 x17 x18 x19 x20 x21 x22 x23 x24 x25 x26 x27 x28 x29 x30 x31 x32 x33 x34 x35 x36 x37 x38 x39 x40 x41 x42 x43 x44 x45 x46 x47 x48 x49 x50 x51 x52 x53 x54 x55 x57 x58 x59 x60 x61 x62 x63 x64 x65 x66 x68 x69 x70 x71 x72 n_1  (i32_lo hq0 (by decide))
  by_cases hq1 : 1 < n_1
  · have e_ : sp_orders n_1 = (-2) := by unfold sp_orders; rw [if_pos (Or.inr hq1)]
    rw [e_]
    exact m_orders_hi l g aC aM h1 h11 h56 h67 x2 x3 x4 x5 x6 x7 x8 x9 x10 x12 x13 x14 x15 x16 x17 x18 x19 x20 x21 x22 x23 x24 x25 x26 x27 x28 x29 x30 x31 x32 x33 x34 x35 x36 x37 x38 x39 x40 x41 x42 x43 x44 x45 x46 x47 x48 x49 x50 x51 x52 x53 x54 x55 x57 x58 x59 x60 x61 x62 x63 x64 x65 x66 x68 x69 x70 x71 x72 n_1  (i32_hi hq1 (by decide))
  obtain ⟨j, hj, rfl⟩ := i32_nat 1 (by decide) hq0 hq1
  rcases (show j = 0 ∨ j = 1 by omega) with rfl | rfl
  · have e_ : sp_orders (nI 0) = 0 := by decide
    rw [e_]
    exact m_orders_0 l g aC aM h1 h11 h56 h67 x2 x3 x4 x5 x6 x7 x8 x9 x10 x12 x13 x14 x15 x16 x17 x18 x19 x20 x21 x22 x23 x24 x25 x26 x27 x28 x29 x30 x31 x32 x33 x34 x35 x36 x37 x38 x39 x40 x41 x42 x43 x44 x45 x46 x47 x48 x49 x50 x51 x52 x53 x54 x55 x57 x58 x59 x60 x61 x62 x63 x64 x65 x66 x68 x69 x70 x71 x72 
  · have e_ : sp_orders (nI 1) = 0 := by decide
    rw [e_]
    exact m_orders_1 l g aC aM h1 h11 h56 h67 x2 x3 x4 x5 x6 x7 x8 x9 x10 x12 x13 x14 x15 x16 x17 x18 x19 x20 x21 x22 x23 x24 x25 x26 x27 x28 x29 x30 x31 x32 x33 x34 x35 x36 x37 x38 x39 x40 x41 x42 x43 x44 x45 x46 x47 x48 x49 x50 x51 x52 x53 x54 x55 x57 x58 x59 x60 x61 x62 x63 x64 x65 x66 x68 x69 x70 x71 x72 

theorem m_mark0 (l : Launch) (g : va_G) (aC : Nat → ClassId) (aM : Nat → Nat) (h1 h47 h48 h49 h50 h51 h52 h53 h54 h55 h56 h58 h60 : Nat) (x2 x3 x4 x5 x6 x7 x8 x9 x10 x11 x12 x13 x14 x15 x16 x17 x18 x19 x20 x21 x22 x23 x24 x25 x26 x27 x28 x29 x30 x31 x32 x33 x34 x35 x36 x37 x38 x39 x40 x41 x42 x43 x44 x45 x46 x57 x59 x61 x62 x63 x64 x65 x66 x67 x68 x69 x70 x71 x72 x73 x74 : Value) (n_1 : Int32) : Ct l g aC aM yX11_mark cX11_mark 5 (some .boolean) 2 [.ref h1, .int n_1, .int 0] [(h1, .inr (11, [.int 0, x2, x3, x4, x5, x6, x7, x8, x9, x10, x11, x12, x13, x14, x15, x16, x17, x18, x19, x20, x21, x22, x23, x24, x25, x26, x27, x28, x29, x30, x31, x32, x33, x34, x35, x36, x37, x38, x39, x40, x41, x42, x43, x44, x45, x46, .ref h47, .ref h48, .ref h49, .ref h50, .ref h51, .ref h52, .ref h53, .ref h54, .ref h55, .ref h56, x57, .ref h58, x59, .ref h60, x61, x62, x63, x64, x65, x66, x67, x68, x69, x70, x71, x72, x73, x74])), (h47, .inl (aC 0, 6, .inl (fun _ => 0))), (h48, .inl (aC 0, 240, .inl (fun _ => 0))), (h49, .inl (aC 0, 240, .inl (fun _ => 0))), (h50, .inl (aC 0, 240, .inl (fun _ => 0))), (h51, .inl (aC 0, 240, .inl (fun _ => 0))), (h52, .inl (aC 0, 5, .inl (fun _ => 0))), (h53, .inl (aC 0, 40, .inl (fun _ => 0))), (h54, .inl (aC 0, 40, .inl (fun _ => 0))), (h55, .inl (aC 3, 40, .inl (fun _ => 0))), (h56, .inl (aC 0, 13, .inl (fun _ => 0))), (h58, .inl (aC 0, 52, .inl (fun _ => 0))), (h60, .inl (aC 3, 4, .inl (fun _ => 0)))] (QI g (fun (r : Int32) (_ : Unit) => r = (sp_mark0 n_1)) (fun (_ : Unit) => [])) 0 0 := by
  by_cases hq0 : n_1 < 0
  · have e_ : sp_mark0 n_1 = 0 := by unfold sp_mark0; rw [if_pos (Or.inl hq0)]
    rw [e_]
    exact m_mark_lo0 l g aC aM h1 h47 h48 h49 h50 h51 h52 h53 h54 h55 h56 h58 h60 x2 x3 x4 x5 x6 x7 x8 x9 x10 x11 x12 x13 x14 x15 x16 x17 x18 x19 x20 x21 x22 x23 x24 x25 x26 x27 x28 x29 x30 x31 x32 x33 x34 x35 x36 x37 x38 x39 x40 x41 x42 x43 x44 x45 x46 x57 x59 x61 x62 x63 x64 x65 x66 x67 x68 x69 x70 x71 x72 x73 x74 n_1  (i32_lo hq0 (by decide))
  by_cases hq1 : 3 < n_1
  · have e_ : sp_mark0 n_1 = 0 := by unfold sp_mark0; rw [if_pos (Or.inr hq1)]
    rw [e_]
    exact m_mark_hi0 l g aC aM h1 h47 h48 h49 h50 h51 h52 h53 h54 h55 h56 h58 h60 x2 x3 x4 x5 x6 x7 x8 x9 x10 x11 x12 x13 x14 x15 x16 x17 x18 x19 x20 x21 x22 x23 x24 x25 x26 x27 x28 x29 x30 x31 x32 x33 x34 x35 x36 x37 x38 x39 x40 x41 x42 x43 x44 x45 x46 x57 x59 x61 x62 x63 x64 x65 x66 x67 x68 x69 x70 x71 x72 x73 x74 n_1  (i32_hi hq1 (by decide))
  obtain ⟨j, hj, rfl⟩ := i32_nat 3 (by decide) hq0 hq1
  rcases (show j = 0 ∨ j = 1 ∨ j = 2 ∨ j = 3 by omega) with rfl | rfl | rfl | rfl
  · have e_ : sp_mark0 (nI 0) = 1 := by decide
    rw [e_]
    exact m_mark_00 l g aC aM h1 h47 h48 h49 h50 h51 h52 h53 h54 h55 h56 h58 h60 x2 x3 x4 x5 x6 x7 x8 x9 x10 x11 x12 x13 x14 x15 x16 x17 x18 x19 x20 x21 x22 x23 x24 x25 x26 x27 x28 x29 x30 x31 x32 x33 x34 x35 x36 x37 x38 x39 x40 x41 x42 x43 x44 x45 x46 x57 x59 x61 x62 x63 x64 x65 x66 x67 x68 x69 x70 x71 x72 x73 x74 
  · have e_ : sp_mark0 (nI 1) = 1 := by decide
    rw [e_]
    exact m_mark_10 l g aC aM h1 h47 h48 h49 h50 h51 h52 h53 h54 h55 h56 h58 h60 x2 x3 x4 x5 x6 x7 x8 x9 x10 x11 x12 x13 x14 x15 x16 x17 x18 x19 x20 x21 x22 x23 x24 x25 x26 x27 x28 x29 x30 x31 x32 x33 x34 x35 x36 x37 x38 x39 x40 x41 x42 x43 x44 x45 x46 x57 x59 x61 x62 x63 x64 x65 x66 x67 x68 x69 x70 x71 x72 x73 x74 
  · have e_ : sp_mark0 (nI 2) = 1 := by decide
    rw [e_]
    exact m_mark_20 l g aC aM h1 h47 h48 h49 h50 h51 h52 h53 h54 h55 h56 h58 h60 x2 x3 x4 x5 x6 x7 x8 x9 x10 x11 x12 x13 x14 x15 x16 x17 x18 x19 x20 x21 x22 x23 x24 x25 x26 x27 x28 x29 x30 x31 x32 x33 x34 x35 x36 x37 x38 x39 x40 x41 x42 x43 x44 x45 x46 x57 x59 x61 x62 x63 x64 x65 x66 x67 x68 x69 x70 x71 x72 x73 x74 
  · have e_ : sp_mark0 (nI 3) = 1 := by decide
    rw [e_]
    exact m_mark_30 l g aC aM h1 h47 h48 h49 h50 h51 h52 h53 h54 h55 h56 h58 h60 x2 x3 x4 x5 x6 x7 x8 x9 x10 x11 x12 x13 x14 x15 x16 x17 x18 x19 x20 x21 x22 x23 x24 x25 x26 x27 x28 x29 x30 x31 x32 x33 x34 x35 x36 x37 x38 x39 x40 x41 x42 x43 x44 x45 x46 x57 x59 x61 x62 x63 x64 x65 x66 x67 x68 x69 x70 x71 x72 x73 x74 

theorem m_mark1 (l : Launch) (g : va_G) (aC : Nat → ClassId) (aM : Nat → Nat) (h1 h47 h48 h49 h50 h51 h52 h53 h54 h55 h56 h58 h60 : Nat) (x2 x3 x4 x5 x6 x7 x8 x9 x10 x11 x12 x13 x14 x15 x16 x17 x18 x19 x20 x21 x22 x23 x24 x25 x26 x27 x28 x29 x30 x31 x32 x33 x34 x35 x36 x37 x38 x39 x40 x41 x42 x43 x44 x45 x46 x57 x59 x61 x62 x63 x64 x65 x66 x67 x68 x69 x70 x71 x72 x73 x74 : Value) (n_1 : Int32) : Ct l g aC aM yX11_mark cX11_mark 5 (some .boolean) 2 [.ref h1, .int n_1, .int 1] [(h1, .inr (11, [.int 0, x2, x3, x4, x5, x6, x7, x8, x9, x10, x11, x12, x13, x14, x15, x16, x17, x18, x19, x20, x21, x22, x23, x24, x25, x26, x27, x28, x29, x30, x31, x32, x33, x34, x35, x36, x37, x38, x39, x40, x41, x42, x43, x44, x45, x46, .ref h47, .ref h48, .ref h49, .ref h50, .ref h51, .ref h52, .ref h53, .ref h54, .ref h55, .ref h56, x57, .ref h58, x59, .ref h60, x61, x62, x63, x64, x65, x66, x67, x68, x69, x70, x71, x72, x73, x74])), (h47, .inl (aC 0, 6, .inl (fun _ => 0))), (h48, .inl (aC 0, 240, .inl (fun _ => 0))), (h49, .inl (aC 0, 240, .inl (fun _ => 0))), (h50, .inl (aC 0, 240, .inl (fun _ => 0))), (h51, .inl (aC 0, 240, .inl (fun _ => 0))), (h52, .inl (aC 0, 5, .inl (fun _ => 0))), (h53, .inl (aC 0, 40, .inl (fun _ => 0))), (h54, .inl (aC 0, 40, .inl (fun _ => 0))), (h55, .inl (aC 3, 40, .inl (fun _ => 0))), (h56, .inl (aC 0, 13, .inl (fun _ => 0))), (h58, .inl (aC 0, 52, .inl (fun _ => 0))), (h60, .inl (aC 3, 4, .inl (fun _ => 0)))] (QI g (fun (r : Int32) (_ : Unit) => r = (sp_mark1 n_1)) (fun (_ : Unit) => [])) 0 0 := by
  by_cases hq0 : n_1 < 0
  · have e_ : sp_mark1 n_1 = 0 := by rfl
    rw [e_]
    exact m_mark_lo1 l g aC aM h1 h47 h48 h49 h50 h51 h52 h53 h54 h55 h56 h58 h60 x2 x3 x4 x5 x6 x7 x8 x9 x10 x11 x12 x13 x14 x15 x16 x17 x18 x19 x20 x21 x22 x23 x24 x25 x26 x27 x28 x29 x30 x31 x32 x33 x34 x35 x36 x37 x38 x39 x40 x41 x42 x43 x44 x45 x46 x57 x59 x61 x62 x63 x64 x65 x66 x67 x68 x69 x70 x71 x72 x73 x74 n_1  (i32_lo hq0 (by decide))
  by_cases hq1 : 3 < n_1
  · have e_ : sp_mark1 n_1 = 0 := by rfl
    rw [e_]
    exact m_mark_hi1 l g aC aM h1 h47 h48 h49 h50 h51 h52 h53 h54 h55 h56 h58 h60 x2 x3 x4 x5 x6 x7 x8 x9 x10 x11 x12 x13 x14 x15 x16 x17 x18 x19 x20 x21 x22 x23 x24 x25 x26 x27 x28 x29 x30 x31 x32 x33 x34 x35 x36 x37 x38 x39 x40 x41 x42 x43 x44 x45 x46 x57 x59 x61 x62 x63 x64 x65 x66 x67 x68 x69 x70 x71 x72 x73 x74 n_1  (i32_hi hq1 (by decide))
  obtain ⟨j, hj, rfl⟩ := i32_nat 3 (by decide) hq0 hq1
  rcases (show j = 0 ∨ j = 1 ∨ j = 2 ∨ j = 3 by omega) with rfl | rfl | rfl | rfl
  · have e_ : sp_mark1 (nI 0) = 0 := by decide
    rw [e_]
    exact m_mark_01 l g aC aM h1 h47 h48 h49 h50 h51 h52 h53 h54 h55 h56 h58 h60 x2 x3 x4 x5 x6 x7 x8 x9 x10 x11 x12 x13 x14 x15 x16 x17 x18 x19 x20 x21 x22 x23 x24 x25 x26 x27 x28 x29 x30 x31 x32 x33 x34 x35 x36 x37 x38 x39 x40 x41 x42 x43 x44 x45 x46 x57 x59 x61 x62 x63 x64 x65 x66 x67 x68 x69 x70 x71 x72 x73 x74 
  · have e_ : sp_mark1 (nI 1) = 0 := by decide
    rw [e_]
    exact m_mark_11 l g aC aM h1 h47 h48 h49 h50 h51 h52 h53 h54 h55 h56 h58 h60 x2 x3 x4 x5 x6 x7 x8 x9 x10 x11 x12 x13 x14 x15 x16 x17 x18 x19 x20 x21 x22 x23 x24 x25 x26 x27 x28 x29 x30 x31 x32 x33 x34 x35 x36 x37 x38 x39 x40 x41 x42 x43 x44 x45 x46 x57 x59 x61 x62 x63 x64 x65 x66 x67 x68 x69 x70 x71 x72 x73 x74 
  · have e_ : sp_mark1 (nI 2) = 0 := by decide
    rw [e_]
    exact m_mark_21 l g aC aM h1 h47 h48 h49 h50 h51 h52 h53 h54 h55 h56 h58 h60 x2 x3 x4 x5 x6 x7 x8 x9 x10 x11 x12 x13 x14 x15 x16 x17 x18 x19 x20 x21 x22 x23 x24 x25 x26 x27 x28 x29 x30 x31 x32 x33 x34 x35 x36 x37 x38 x39 x40 x41 x42 x43 x44 x45 x46 x57 x59 x61 x62 x63 x64 x65 x66 x67 x68 x69 x70 x71 x72 x73 x74 
  · have e_ : sp_mark1 (nI 3) = 0 := by decide
    rw [e_]
    exact m_mark_31 l g aC aM h1 h47 h48 h49 h50 h51 h52 h53 h54 h55 h56 h58 h60 x2 x3 x4 x5 x6 x7 x8 x9 x10 x11 x12 x13 x14 x15 x16 x17 x18 x19 x20 x21 x22 x23 x24 x25 x26 x27 x28 x29 x30 x31 x32 x33 x34 x35 x36 x37 x38 x39 x40 x41 x42 x43 x44 x45 x46 x57 x59 x61 x62 x63 x64 x65 x66 x67 x68 x69 x70 x71 x72 x73 x74 

theorem m_thefts (l : Launch) (g : va_G) (aC : Nat → ClassId) (aM : Nat → Nat) (h1 h11 h56 : Nat) (x2 x3 x4 x5 x6 x7 x8 x9 x10 x12 x13 x14 x15 x16 x17 x18 x19 x20 x21 x22 x23 x24 x25 x26 x27 x28 x29 x30 x31 x32 x33 x34 x35 x36 x37 x38 x39 x40 x41 x42 x43 x44 x45 x46 x47 x48 x49 x50 x51 x52 x53 x54 x55 x57 x58 x59 x60 x61 x62 x63 x64 x65 x66 x67 x68 x69 x70 x71 x72 x73 x74 : Value) (n_1 n_2 n_3 : Int32) : Ct l g aC aM yX11_thefts cX11_thefts 7 (some .int) 2 [.ref h1, .int n_1, .int n_2, .int n_3] [(h1, .inr (11, [.int 0, x2, x3, x4, x5, x6, x7, x8, x9, x10, .ref h11, x12, x13, x14, x15, x16, x17, x18, x19, x20, x21, x22, x23, x24, x25, x26, x27, x28, x29, x30, x31, x32, x33, x34, x35, x36, x37, x38, x39, x40, x41, x42, x43, x44, x45, x46, x47, x48, x49, x50, x51, x52, x53, x54, x55, .ref h56, x57, x58, x59, x60, x61, x62, x63, x64, x65, x66, x67, x68, x69, x70, x71, x72, x73, x74])), (h11, .inl (aC 0, 14, .inl (fun _ => 0))), (h56, .inl (aC 0, 13, .inl (fun _ => 0)))] (QI g (fun (r : Int32) (_ : Unit) => r = (sp_thefts n_1 n_2 n_3)) (fun (_ : Unit) => [])) 0 0 := by
  by_cases h1lo : n_1 < 0
  · have e_ : sp_thefts n_1 n_2 n_3 = -1 := by unfold sp_thefts; rw [if_pos (Or.inl (Or.inl h1lo))]
    rw [e_]
    exact m_thefts_1lo l g aC aM h1 h11 h56 x2 x3 x4 x5 x6 x7 x8 x9 x10 x12 x13 x14 x15 x16 x17 x18 x19 x20 x21 x22 x23 x24 x25 x26 x27 x28 x29 x30 x31 x32 x33 x34 x35 x36 x37 x38 x39 x40 x41 x42 x43 x44 x45 x46 x47 x48 x49 x50 x51 x52 x53 x54 x55 x57 x58 x59 x60 x61 x62 x63 x64 x65 x66 x67 x68 x69 x70 x71 x72 x73 x74 n_1 n_2 n_3   (i32_lo h1lo (by decide))
  by_cases h1hi : 10 < n_1
  · have e_ : sp_thefts n_1 n_2 n_3 = -1 := by unfold sp_thefts; rw [if_pos (Or.inl (Or.inr h1hi))]
    rw [e_]
    exact m_thefts_1hi l g aC aM h1 h11 h56 x2 x3 x4 x5 x6 x7 x8 x9 x10 x12 x13 x14 x15 x16 x17 x18 x19 x20 x21 x22 x23 x24 x25 x26 x27 x28 x29 x30 x31 x32 x33 x34 x35 x36 x37 x38 x39 x40 x41 x42 x43 x44 x45 x46 x47 x48 x49 x50 x51 x52 x53 x54 x55 x57 x58 x59 x60 x61 x62 x63 x64 x65 x66 x67 x68 x69 x70 x71 x72 x73 x74 n_1 n_2 n_3   (i32_hi h1hi (by decide))
  by_cases h2lo : n_2 < 0
  · have e_ : sp_thefts n_1 n_2 n_3 = -1 := by unfold sp_thefts; rw [if_pos (Or.inr (Or.inl (Or.inl h2lo)))]
    rw [e_]
    exact m_thefts_2lo l g aC aM h1 h11 h56 x2 x3 x4 x5 x6 x7 x8 x9 x10 x12 x13 x14 x15 x16 x17 x18 x19 x20 x21 x22 x23 x24 x25 x26 x27 x28 x29 x30 x31 x32 x33 x34 x35 x36 x37 x38 x39 x40 x41 x42 x43 x44 x45 x46 x47 x48 x49 x50 x51 x52 x53 x54 x55 x57 x58 x59 x60 x61 x62 x63 x64 x65 x66 x67 x68 x69 x70 x71 x72 x73 x74 n_1 n_2 n_3   (i32_ge h1lo) (i32_ge h1hi) (i32_lo h2lo (by decide))
  by_cases h2hi : 5 < n_2
  · have e_ : sp_thefts n_1 n_2 n_3 = -1 := by unfold sp_thefts; rw [if_pos (Or.inr (Or.inl (Or.inr h2hi)))]
    rw [e_]
    exact m_thefts_2hi l g aC aM h1 h11 h56 x2 x3 x4 x5 x6 x7 x8 x9 x10 x12 x13 x14 x15 x16 x17 x18 x19 x20 x21 x22 x23 x24 x25 x26 x27 x28 x29 x30 x31 x32 x33 x34 x35 x36 x37 x38 x39 x40 x41 x42 x43 x44 x45 x46 x47 x48 x49 x50 x51 x52 x53 x54 x55 x57 x58 x59 x60 x61 x62 x63 x64 x65 x66 x67 x68 x69 x70 x71 x72 x73 x74 n_1 n_2 n_3   (i32_ge h1lo) (i32_ge h1hi) (i32_hi h2hi (by decide))
  by_cases h3lo : n_3 < 0
  · have e_ : sp_thefts n_1 n_2 n_3 = -1 := by unfold sp_thefts; rw [if_pos (Or.inr (Or.inr (Or.inl h3lo)))]
    rw [e_]
    exact m_thefts_3lo l g aC aM h1 h11 h56 x2 x3 x4 x5 x6 x7 x8 x9 x10 x12 x13 x14 x15 x16 x17 x18 x19 x20 x21 x22 x23 x24 x25 x26 x27 x28 x29 x30 x31 x32 x33 x34 x35 x36 x37 x38 x39 x40 x41 x42 x43 x44 x45 x46 x47 x48 x49 x50 x51 x52 x53 x54 x55 x57 x58 x59 x60 x61 x62 x63 x64 x65 x66 x67 x68 x69 x70 x71 x72 x73 x74 n_1 n_2 n_3   (i32_ge h1lo) (i32_ge h1hi) (i32_ge h2lo) (i32_ge h2hi) (i32_lo h3lo (by decide))
  by_cases h3hi : 1 < n_3
  · have e_ : sp_thefts n_1 n_2 n_3 = -1 := by unfold sp_thefts; rw [if_pos (Or.inr (Or.inr (Or.inr h3hi)))]
    rw [e_]
    exact m_thefts_3hi l g aC aM h1 h11 h56 x2 x3 x4 x5 x6 x7 x8 x9 x10 x12 x13 x14 x15 x16 x17 x18 x19 x20 x21 x22 x23 x24 x25 x26 x27 x28 x29 x30 x31 x32 x33 x34 x35 x36 x37 x38 x39 x40 x41 x42 x43 x44 x45 x46 x47 x48 x49 x50 x51 x52 x53 x54 x55 x57 x58 x59 x60 x61 x62 x63 x64 x65 x66 x67 x68 x69 x70 x71 x72 x73 x74 n_1 n_2 n_3   (i32_ge h1lo) (i32_ge h1hi) (i32_ge h2lo) (i32_ge h2hi) (i32_hi h3hi (by decide))
  have e_ : sp_thefts n_1 n_2 n_3 = 0 := by
    unfold sp_thefts
    rw [if_neg]
    rintro ((h | h) | (h | h) | (h | h))
    · exact h1lo h
    · exact h1hi h
    · exact h2lo h
    · exact h2hi h
    · exact h3lo h
    · exact h3hi h
  rw [e_]
  exact m_thefts_ok l g aC aM h1 h11 h56 x2 x3 x4 x5 x6 x7 x8 x9 x10 x12 x13 x14 x15 x16 x17 x18 x19 x20 x21 x22 x23 x24 x25 x26 x27 x28 x29 x30 x31 x32 x33 x34 x35 x36 x37 x38 x39 x40 x41 x42 x43 x44 x45 x46 x47 x48 x49 x50 x51 x52 x53 x54 x55 x57 x58 x59 x60 x61 x62 x63 x64 x65 x66 x67 x68 x69 x70 x71 x72 x73 x74 n_1 n_2 n_3  (i32_ge h1lo) (i32_ge h1hi) (i32_ge h2lo) (i32_ge h2hi) (i32_ge h3lo) (i32_ge h3hi)

theorem m_years (l : Launch) (g : va_G) (aC : Nat → ClassId) (aM : Nat → Nat) (h1 h11 h56 h57 : Nat) (x2 x3 x4 x5 x6 x7 x8 x9 x10 x12 x13 x14 x15 x16 x17 x18 x19 x20 x21 x22 x23 x24 x25 x26 x27 x28 x29 x30 x31 x32 x33 x34 x35 x36 x37 x38 x39 x40 x41 x42 x43 x44 x45 x46 x47 x48 x49 x50 x51 x52 x53 x54 x55 x58 x59 x60 x61 x62 x63 x64 x65 x66 x67 x68 x69 x70 x71 x72 x73 : Value) (n_1 n_2 n_3 : Int32) : Ct l g aC aM yX11_years cX11_years 6 (some .int) 4 [.ref h1, .int n_1, .int n_2, .int n_3] [(h1, .inr (11, [.int 0, x2, x3, x4, x5, x6, x7, x8, x9, x10, .ref h11, x12, x13, x14, x15, x16, x17, x18, x19, x20, x21, x22, x23, x24, x25, x26, x27, x28, x29, x30, x31, x32, x33, x34, x35, x36, x37, x38, x39, x40, x41, x42, x43, x44, x45, x46, x47, x48, x49, x50, x51, x52, x53, x54, x55, .ref h56, .ref h57, x58, x59, x60, x61, x62, x63, x64, x65, x66, x67, x68, x69, x70, x71, x72, x73, .long 0])), (h11, .inl (aC 0, 14, .inl (fun _ => 0))), (h56, .inl (aC 0, 13, .inl (fun _ => 0))), (h57, .inl (aC 0, 13, .inl (fun _ => 0)))] (QI g (fun (r : Int32) (_ : Unit) => r = (sp_years n_1 n_2 n_3)) (fun (_ : Unit) => [])) 0 0 := by
  by_cases h1lo : n_1 < 0
  · have e_ : sp_years n_1 n_2 n_3 = -1 := by unfold sp_years; rw [if_pos (Or.inl (Or.inl h1lo))]
    rw [e_]
    exact m_years_1lo l g aC aM h1 h11 h56 h57 x2 x3 x4 x5 x6 x7 x8 x9 x10 x12 x13 x14 x15 x16 x17 x18 x19 x20 x21 x22 x23 x24 x25 x26 x27 x28 x29 x30 x31 x32 x33 x34 x35 x36 x37 x38 x39 x40 x41 x42 x43 x44 x45 x46 x47 x48 x49 x50 x51 x52 x53 x54 x55 x58 x59 x60 x61 x62 x63 x64 x65 x66 x67 x68 x69 x70 x71 x72 x73 n_1 n_2 n_3   (i32_lo h1lo (by decide))
  by_cases h1hi : 9999 < n_1
  · have e_ : sp_years n_1 n_2 n_3 = -1 := by unfold sp_years; rw [if_pos (Or.inl (Or.inr h1hi))]
    rw [e_]
    exact m_years_1hi l g aC aM h1 h11 h56 h57 x2 x3 x4 x5 x6 x7 x8 x9 x10 x12 x13 x14 x15 x16 x17 x18 x19 x20 x21 x22 x23 x24 x25 x26 x27 x28 x29 x30 x31 x32 x33 x34 x35 x36 x37 x38 x39 x40 x41 x42 x43 x44 x45 x46 x47 x48 x49 x50 x51 x52 x53 x54 x55 x58 x59 x60 x61 x62 x63 x64 x65 x66 x67 x68 x69 x70 x71 x72 x73 n_1 n_2 n_3   (i32_hi h1hi (by decide))
  by_cases h2lo : n_2 < 1
  · have e_ : sp_years n_1 n_2 n_3 = -1 := by unfold sp_years; rw [if_pos (Or.inr (Or.inl (Or.inl h2lo)))]
    rw [e_]
    exact m_years_2lo l g aC aM h1 h11 h56 h57 x2 x3 x4 x5 x6 x7 x8 x9 x10 x12 x13 x14 x15 x16 x17 x18 x19 x20 x21 x22 x23 x24 x25 x26 x27 x28 x29 x30 x31 x32 x33 x34 x35 x36 x37 x38 x39 x40 x41 x42 x43 x44 x45 x46 x47 x48 x49 x50 x51 x52 x53 x54 x55 x58 x59 x60 x61 x62 x63 x64 x65 x66 x67 x68 x69 x70 x71 x72 x73 n_1 n_2 n_3   (i32_ge h1lo) (i32_ge h1hi) (i32_lo h2lo (by decide))
  by_cases h2hi : 100 < n_2
  · have e_ : sp_years n_1 n_2 n_3 = -1 := by unfold sp_years; rw [if_pos (Or.inr (Or.inl (Or.inr h2hi)))]
    rw [e_]
    exact m_years_2hi l g aC aM h1 h11 h56 h57 x2 x3 x4 x5 x6 x7 x8 x9 x10 x12 x13 x14 x15 x16 x17 x18 x19 x20 x21 x22 x23 x24 x25 x26 x27 x28 x29 x30 x31 x32 x33 x34 x35 x36 x37 x38 x39 x40 x41 x42 x43 x44 x45 x46 x47 x48 x49 x50 x51 x52 x53 x54 x55 x58 x59 x60 x61 x62 x63 x64 x65 x66 x67 x68 x69 x70 x71 x72 x73 n_1 n_2 n_3   (i32_ge h1lo) (i32_ge h1hi) (i32_hi h2hi (by decide))
  by_cases h3lo : n_3 < 0
  · have e_ : sp_years n_1 n_2 n_3 = -1 := by unfold sp_years; rw [if_pos (Or.inr (Or.inr (Or.inl h3lo)))]
    rw [e_]
    exact m_years_3lo l g aC aM h1 h11 h56 h57 x2 x3 x4 x5 x6 x7 x8 x9 x10 x12 x13 x14 x15 x16 x17 x18 x19 x20 x21 x22 x23 x24 x25 x26 x27 x28 x29 x30 x31 x32 x33 x34 x35 x36 x37 x38 x39 x40 x41 x42 x43 x44 x45 x46 x47 x48 x49 x50 x51 x52 x53 x54 x55 x58 x59 x60 x61 x62 x63 x64 x65 x66 x67 x68 x69 x70 x71 x72 x73 n_1 n_2 n_3   (i32_ge h1lo) (i32_ge h1hi) (i32_ge h2lo) (i32_ge h2hi) (i32_lo h3lo (by decide))
  by_cases h3hi : 2 < n_3
  · have e_ : sp_years n_1 n_2 n_3 = -1 := by unfold sp_years; rw [if_pos (Or.inr (Or.inr (Or.inr h3hi)))]
    rw [e_]
    exact m_years_3hi l g aC aM h1 h11 h56 h57 x2 x3 x4 x5 x6 x7 x8 x9 x10 x12 x13 x14 x15 x16 x17 x18 x19 x20 x21 x22 x23 x24 x25 x26 x27 x28 x29 x30 x31 x32 x33 x34 x35 x36 x37 x38 x39 x40 x41 x42 x43 x44 x45 x46 x47 x48 x49 x50 x51 x52 x53 x54 x55 x58 x59 x60 x61 x62 x63 x64 x65 x66 x67 x68 x69 x70 x71 x72 x73 n_1 n_2 n_3   (i32_ge h1lo) (i32_ge h1hi) (i32_ge h2lo) (i32_ge h2hi) (i32_hi h3hi (by decide))
  have e_ : sp_years n_1 n_2 n_3 = 0 := by
    unfold sp_years
    rw [if_neg]
    rintro ((h | h) | (h | h) | (h | h))
    · exact h1lo h
    · exact h1hi h
    · exact h2lo h
    · exact h2hi h
    · exact h3lo h
    · exact h3hi h
  rw [e_]
  obtain ⟨nn, hn2, rfl⟩ := i32_nat (x := n_2) 100 (by decide) (fun h => h2lo (by simp only [Int32.lt_iff_toInt_lt, show (0 : Int32).toInt = 0 by decide, show (1 : Int32).toInt = 1 by decide] at h ⊢; omega)) h2hi
  have hn1 : 1 ≤ nn := by
    rcases Nat.lt_or_ge nn 1 with h | h
    · exact absurd ((nI_ltI (a := nn) (b := 1) (by omega) (by decide)).mpr h) h2lo
    · exact h
  exact m_years_ok l g aC aM h1 h11 h56 h57 x2 x3 x4 x5 x6 x7 x8 x9 x10 x12 x13 x14 x15 x16 x17 x18 x19 x20 x21 x22 x23 x24 x25 x26 x27 x28 x29 x30 x31 x32 x33 x34 x35 x36 x37 x38 x39 x40 x41 x42 x43 x44 x45 x46 x47 x48 x49 x50 x51 x52 x53 x54 x55 x58 x59 x60 x61 x62 x63 x64 x65 x66 x67 x68 x69 x70 x71 x72 x73 n_1 n_3 nn  (i32_ge h1lo) (i32_ge h1hi) (i32_ge h3lo) (i32_ge h3hi) hn1 hn2
