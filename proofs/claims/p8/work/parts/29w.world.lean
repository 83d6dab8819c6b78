/-! the world behind the constructors -/
def hzl0 : List Pc := [
  .inr (10, [.ref 1, .ref 4, .ref 5, .ref 7, .ref 43, .ref 79, .ref 82, .ref 85, .ref 88, .ref 150, .ref 163, .int 0, .ref 164, .ref 165, .ref 170, .long 0]),
  .inr (7, [.int 0, .int 0, .ref 2, .ref 3, .int 0, .int 0, .int 0, .long 0, .int 0, .int 0]),
  .inl (2, 1000, .inl (fun _ => 0)),
  .inl (1, 28, .inr (.inl (fun _ => 0))),
  .inr (9, [.ref 1]),
  .inr (2, [.ref 6, .int 0, .ref 1]),
  .inl (0, 160, .inl (fun _ => 0)),
  .inr (8, [.ref 8, .ref 19, .ref 24, .ref 30, .ref 35, .int 0, .int 5, .ref 36, .ref 39, .ref 40, .ref 41, .ref 42]),
  .inl (0, 5, .inl (fun _ => 0)),
  .inl (0, 4, .inl (fun _ => 0)),
  .inl (0, 4, .inl (fun _ => 0)),
  .inl (0, 4, .inl (fun _ => 0)),
  .inl (0, 4, .inl (fun _ => 0)),
  .inl (0, 4, .inl (fun _ => 0)),
  .inl (0, 4, .inl (fun _ => 0)),
  .inl (0, 4, .inl (fun _ => 0))]
def hzl1 : List Pc := [
  .inl (0, 4, .inl (fun _ => 0)),
  .inl (0, 4, .inl (fun _ => 0)),
  .inl (0, 4, .inl (fun _ => 0)),
  .inl (6, 10, .inr (.inr (.inr (.inr (fun i => if i < 10 then some (9 + i) else none))))),
  .inl (0, 2, .inl (fun _ => 0)),
  .inl (0, 2, .inl (fun _ => 0)),
  .inl (0, 2, .inl (fun _ => 0)),
  .inl (0, 2, .inl (fun _ => 0)),
  .inl (6, 4, .inr (.inr (.inr (.inr (fun i => if i < 4 then some (20 + i) else none))))),
  .inl (0, 4, .inl (fun _ => 0)),
  .inl (0, 4, .inl (fun _ => 0)),
  .inl (0, 4, .inl (fun _ => 0)),
  .inl (0, 4, .inl (fun _ => 0)),
  .inl (0, 4, .inl (fun _ => 0)),
  .inl (6, 5, .inr (.inr (.inr (.inr (fun i => if i < 5 then some (25 + i) else none))))),
  .inl (0, 2, .inl (fun _ => 0))]
def hzl2 : List Pc := [
  .inl (0, 2, .inl (fun _ => 0)),
  .inl (0, 2, .inl (fun _ => 0)),
  .inl (0, 2, .inl (fun _ => 0)),
  .inl (6, 4, .inr (.inr (.inr (.inr (fun i => if i < 4 then some (31 + i) else none))))),
  .inr (4, [.ref 37, .int 1, .ref 38]),
  .inl (0, 1000, .inl (fun _ => 0)),
  .inl (0, 24, .inl (fun _ => 0)),
  .inl (1, 25, .inr (.inl (fun _ => 0))),
  .inl (0, 5, .inl (fun _ => 0)),
  .inl (0, 30, .inl (fun _ => 0)),
  .inl (0, 10, .inl (fun _ => 0)),
  .inr (8, [.ref 44, .ref 55, .ref 60, .ref 66, .ref 71, .int 0, .int 5, .ref 72, .ref 75, .ref 76, .ref 77, .ref 78]),
  .inl (0, 5, .inl (fun _ => 0)),
  .inl (0, 4, .inl (fun _ => 0)),
  .inl (0, 4, .inl (fun _ => 0)),
  .inl (0, 4, .inl (fun _ => 0))]
def hzl3 : List Pc := [
  .inl (0, 4, .inl (fun _ => 0)),
  .inl (0, 4, .inl (fun _ => 0)),
  .inl (0, 4, .inl (fun _ => 0)),
  .inl (0, 4, .inl (fun _ => 0)),
  .inl (0, 4, .inl (fun _ => 0)),
  .inl (0, 4, .inl (fun _ => 0)),
  .inl (0, 4, .inl (fun _ => 0)),
  .inl (6, 10, .inr (.inr (.inr (.inr (fun i => if i < 10 then some (45 + i) else none))))),
  .inl (0, 2, .inl (fun _ => 0)),
  .inl (0, 2, .inl (fun _ => 0)),
  .inl (0, 2, .inl (fun _ => 0)),
  .inl (0, 2, .inl (fun _ => 0)),
  .inl (6, 4, .inr (.inr (.inr (.inr (fun i => if i < 4 then some (56 + i) else none))))),
  .inl (0, 4, .inl (fun _ => 0)),
  .inl (0, 4, .inl (fun _ => 0)),
  .inl (0, 4, .inl (fun _ => 0))]
def hzl4 : List Pc := [
  .inl (0, 4, .inl (fun _ => 0)),
  .inl (0, 4, .inl (fun _ => 0)),
  .inl (6, 5, .inr (.inr (.inr (.inr (fun i => if i < 5 then some (61 + i) else none))))),
  .inl (0, 2, .inl (fun _ => 0)),
  .inl (0, 2, .inl (fun _ => 0)),
  .inl (0, 2, .inl (fun _ => 0)),
  .inl (0, 2, .inl (fun _ => 0)),
  .inl (6, 4, .inr (.inr (.inr (.inr (fun i => if i < 4 then some (67 + i) else none))))),
  .inr (4, [.ref 73, .int 1, .ref 74]),
  .inl (0, 1000, .inl (fun _ => 0)),
  .inl (0, 24, .inl (fun _ => 0)),
  .inl (1, 25, .inr (.inl (fun _ => 0))),
  .inl (0, 5, .inl (fun _ => 0)),
  .inl (0, 30, .inl (fun _ => 0)),
  .inl (0, 10, .inl (fun _ => 0)),
  .inr (6, [.int 0, .ref 80, .ref 81, .int 0, .int 0, .int 0])]
def hzl5 : List Pc := [
  .inl (0, 5, .inl (fun _ => 0)),
  .inl (0, 4, .inl (fun _ => 0)),
  .inr (6, [.int 0, .ref 83, .ref 84, .int 0, .int 0, .int 0]),
  .inl (0, 5, .inl (fun _ => 0)),
  .inl (0, 4, .inl (fun _ => 0)),
  .inr (5, [.ref 86, .int 0, .int 0, .ref 87, .int 0]),
  .inl (0, 160, .inl (fun _ => 0)),
  .inl (0, 8, .inl (fun _ => 0)),
  .inr (1, [.int 0, .int 0, .ref 137]),
  .inr (6, [.int 0, .ref 90, .ref 91, .int 0, .int 0, .int 0]),
  .inl (0, 5, .inl (fun _ => 0)),
  .inl (0, 4, .inl (fun _ => 0)),
  .inr (6, [.int 0, .ref 93, .ref 94, .int 0, .int 0, .int 0]),
  .inl (0, 5, .inl (fun _ => 0)),
  .inl (0, 4, .inl (fun _ => 0)),
  .inr (6, [.int 0, .ref 96, .ref 97, .int 0, .int 0, .int 0])]
def hzl6 : List Pc := [
  .inl (0, 5, .inl (fun _ => 0)),
  .inl (0, 4, .inl (fun _ => 0)),
  .inr (6, [.int 0, .ref 99, .ref 100, .int 0, .int 0, .int 0]),
  .inl (0, 5, .inl (fun _ => 0)),
  .inl (0, 4, .inl (fun _ => 0)),
  .inr (6, [.int 0, .ref 102, .ref 103, .int 0, .int 0, .int 0]),
  .inl (0, 5, .inl (fun _ => 0)),
  .inl (0, 4, .inl (fun _ => 0)),
  .inr (6, [.int 0, .ref 105, .ref 106, .int 0, .int 0, .int 0]),
  .inl (0, 5, .inl (fun _ => 0)),
  .inl (0, 4, .inl (fun _ => 0)),
  .inr (6, [.int 0, .ref 108, .ref 109, .int 0, .int 0, .int 0]),
  .inl (0, 5, .inl (fun _ => 0)),
  .inl (0, 4, .inl (fun _ => 0)),
  .inr (6, [.int 0, .ref 111, .ref 112, .int 0, .int 0, .int 0]),
  .inl (0, 5, .inl (fun _ => 0))]
def hzl7 : List Pc := [
  .inl (0, 4, .inl (fun _ => 0)),
  .inr (6, [.int 0, .ref 114, .ref 115, .int 0, .int 0, .int 0]),
  .inl (0, 5, .inl (fun _ => 0)),
  .inl (0, 4, .inl (fun _ => 0)),
  .inr (6, [.int 0, .ref 117, .ref 118, .int 0, .int 0, .int 0]),
  .inl (0, 5, .inl (fun _ => 0)),
  .inl (0, 4, .inl (fun _ => 0)),
  .inr (6, [.int 0, .ref 120, .ref 121, .int 0, .int 0, .int 0]),
  .inl (0, 5, .inl (fun _ => 0)),
  .inl (0, 4, .inl (fun _ => 0)),
  .inr (6, [.int 0, .ref 123, .ref 124, .int 0, .int 0, .int 0]),
  .inl (0, 5, .inl (fun _ => 0)),
  .inl (0, 4, .inl (fun _ => 0)),
  .inr (6, [.int 0, .ref 126, .ref 127, .int 0, .int 0, .int 0]),
  .inl (0, 5, .inl (fun _ => 0)),
  .inl (0, 4, .inl (fun _ => 0))]
def hzl8 : List Pc := [
  .inr (6, [.int 0, .ref 129, .ref 130, .int 0, .int 0, .int 0]),
  .inl (0, 5, .inl (fun _ => 0)),
  .inl (0, 4, .inl (fun _ => 0)),
  .inr (6, [.int 0, .ref 132, .ref 133, .int 0, .int 0, .int 0]),
  .inl (0, 5, .inl (fun _ => 0)),
  .inl (0, 4, .inl (fun _ => 0)),
  .inr (6, [.int 0, .ref 135, .ref 136, .int 0, .int 0, .int 0]),
  .inl (0, 5, .inl (fun _ => 0)),
  .inl (0, 4, .inl (fun _ => 0)),
  .inl (4, 16, .inr (.inr (.inr (.inr (va_up (va_up (va_up (va_up (va_up (va_up (va_up (va_up (va_up (va_up (va_up (va_up (va_up (va_up (va_up (va_up (fun _ => none) 0 (some 89)) 1 (some 92)) 2 (some 95)) 3 (some 98)) 4 (some 101)) 5 (some 104)) 6 (some 107)) 7 (some 110)) 8 (some 113)) 9 (some 116)) 10 (some 119)) 11 (some 122)) 12 (some 125)) 13 (some 128)) 14 (some 131)) 15 (some 134)))))),
  .inr (6, [.int 0, .ref 139, .ref 140, .int 0, .int 0, .int 0]),
  .inl (0, 5, .inl (fun _ => 0)),
  .inl (0, 4, .inl (fun _ => 0)),
  .inr (6, [.int 0, .ref 142, .ref 143, .int 0, .int 0, .int 0]),
  .inl (0, 5, .inl (fun _ => 0)),
  .inl (0, 4, .inl (fun _ => 0))]
def hzl9 : List Pc := [
  .inr (6, [.int 0, .ref 145, .ref 146, .int 0, .int 0, .int 0]),
  .inl (0, 5, .inl (fun _ => 0)),
  .inl (0, 4, .inl (fun _ => 0)),
  .inr (6, [.int 0, .ref 148, .ref 149, .int 0, .int 0, .int 0]),
  .inl (0, 5, .inl (fun _ => 0)),
  .inl (0, 4, .inl (fun _ => 0)),
  .inl (4, 4, .inr (.inr (.inr (.inr (va_up (va_up (va_up (va_up (fun _ => none) 0 (some 138)) 1 (some 141)) 2 (some 144)) 3 (some 147)))))),
  .inr (5, [.ref 152, .int 0, .int 0, .ref 153, .int 0]),
  .inl (0, 160, .inl (fun _ => 0)),
  .inl (0, 8, .inl (fun _ => 0)),
  .inr (5, [.ref 155, .int 0, .int 0, .ref 156, .int 0]),
  .inl (0, 160, .inl (fun _ => 0)),
  .inl (0, 8, .inl (fun _ => 0)),
  .inr (5, [.ref 158, .int 0, .int 0, .ref 159, .int 0]),
  .inl (0, 160, .inl (fun _ => 0)),
  .inl (0, 8, .inl (fun _ => 0))]
def hzl10 : List Pc := [
  .inr (5, [.ref 161, .int 0, .int 0, .ref 162, .int 0]),
  .inl (0, 160, .inl (fun _ => 0)),
  .inl (0, 8, .inl (fun _ => 0)),
  .inl (5, 4, .inr (.inr (.inr (.inr (va_up (va_up (va_up (va_up (fun _ => none) 0 (some 151)) 1 (some 154)) 2 (some 157)) 3 (some 160)))))),
  .inl (0, 5, .inl (fun _ => 0)),
  .inr (3, [.int 0, .ref 166, .ref 167, .ref 168, .ref 169]),
  .inl (0, 7, .inl (fun _ => 0)),
  .inl (0, 128, .inl (fun _ => 0)),
  .inl (0, 128, .inl (fun _ => 0)),
  .inl (1, 128, .inr (.inl (fun _ => 0))),
  .inr (0, [.ref 171, .int 0]),
  .inl (0, 1024, .inl (fun _ => 0)),
  .inr (11, [.int 0, .int 0, .ref 173, .int 0, .int 0, .int 0, .int 0, .long 0, .int 0, .int 0, .ref 174, .ref 175, .ref 176, .ref 177, .ref 178, .ref 179, .ref 180, .ref 181, .ref 182, .ref 183, .ref 184, .ref 185, .ref 186, .ref 187, .ref 188, .ref 189, .ref 190, .ref 191, .ref 192, .ref 193, .ref 194, .int 0, .int 0, .ref 195, .ref 196, .ref 197, .ref 198, .ref 199, .ref 200, .ref 201, .ref 202, .ref 203, .ref 204, .ref 205, .ref 206, .int 0, .ref 207, .ref 208, .ref 209, .ref 210, .ref 211, .ref 212, .ref 213, .ref 214, .ref 215, .ref 216, .ref 217, .ref 218, .ref 219, .ref 220, .int 0, .ref 221, .ref 222, .ref 223, .int 0, .ref 224, .ref 225, .ref 226, .int 0, .int 0, .int 0, .ref 227, .ref 228, .long 0]),
  .inl (0, 1000, .inl (fun _ => 0)),
  .inl (0, 14, .inl (fun _ => 0)),
  .inl (1, 10, .inr (.inl (fun _ => 0)))]
def hzl11 : List Pc := [
  .inl (1, 8, .inr (.inl (fun _ => 0))),
  .inl (1, 10, .inr (.inl (fun _ => 0))),
  .inl (1, 8, .inr (.inl (fun _ => 0))),
  .inl (0, 10, .inl (fun _ => 0)),
  .inl (0, 20, .inl (fun _ => 0)),
  .inl (0, 20, .inl (fun _ => 0)),
  .inl (0, 20, .inl (fun _ => 0)),
  .inl (0, 20, .inl (fun _ => 0)),
  .inl (0, 8, .inl (fun _ => 0)),
  .inl (0, 8, .inl (fun _ => 0)),
  .inl (0, 10, .inl (fun _ => 0)),
  .inl (0, 10, .inl (fun _ => 0)),
  .inl (0, 10, .inl (fun _ => 0)),
  .inl (0, 10, .inl (fun _ => 0)),
  .inl (0, 8, .inl (fun _ => 0)),
  .inl (0, 8, .inl (fun _ => 0))]
def hzl12 : List Pc := [
  .inl (0, 2, .inl (fun _ => 0)),
  .inl (0, 2, .inl (fun _ => 0)),
  .inl (0, 2000, .inl (fun _ => 0)),
  .inl (0, 7, .inl (fun _ => 0)),
  .inl (3, 7, .inl (fun _ => 0)),
  .inl (0, 7, .inl (fun _ => 0)),
  .inl (0, 7, .inl (fun _ => 0)),
  .inl (0, 7, .inl (fun _ => 0)),
  .inl (0, 7, .inl (fun _ => 0)),
  .inl (0, 7, .inl (fun _ => 0)),
  .inl (0, 7, .inl (fun _ => 0)),
  .inl (0, 7, .inl (fun _ => 0)),
  .inl (0, 7, .inl (fun _ => 0)),
  .inl (0, 7, .inl (fun _ => 0)),
  .inl (0, 20, .inl (fun _ => 0)),
  .inl (0, 6, .inl (fun _ => 0))]
def hzl13 : List Pc := [
  .inl (0, 240, .inl (fun _ => 0)),
  .inl (0, 240, .inl (fun _ => 0)),
  .inl (0, 240, .inl (fun _ => 0)),
  .inl (0, 240, .inl (fun _ => 0)),
  .inl (0, 5, .inl (fun _ => 0)),
  .inl (0, 40, .inl (fun _ => 0)),
  .inl (0, 40, .inl (fun _ => 0)),
  .inl (3, 40, .inl (fun _ => 0)),
  .inl (0, 13, .inl (fun _ => 0)),
  .inl (0, 13, .inl (fun _ => 0)),
  .inl (0, 52, .inl (fun _ => 0)),
  .inl (0, 208, .inl (fun _ => 0)),
  .inl (3, 4, .inl (fun _ => 0)),
  .inl (0, 30, .inl (fun _ => 0)),
  .inl (3, 5120, .inl (fun _ => 0)),
  .inl (0, 4, .inl (fun _ => 0))]
def hzl14 : List Pc := [
  .inl (0, 10, .inl (fun _ => 0)),
  .inl (0, 10, .inl (fun _ => 0)),
  .inl (0, 4, .inl (fun _ => 0)),
  .inl (0, 10, .inl (fun _ => 0)),
  .inl (0, 1024, .inl (fun _ => 0))]
def hzl : List (List Pc) := [hzl0, hzl1, hzl2, hzl3, hzl4, hzl5, hzl6, hzl7, hzl8, hzl9, hzl10, hzl11, hzl12, hzl13, hzl14]
def hZ : Ph := fun c => (((hzl[c / 16]?).getD [])[c % 16]?).getD (.inr (0, []))
def gkB (RG : Nat → List Nat) (k : Kd) (v : Value) : Bool := match v with
  | .int x => k.1 == 0 && (decide (k.2.2.1 ≤ x.toInt) && decide (x.toInt ≤ k.2.2.2))
  | .long x => k.1 == 1 && (decide (k.2.2.1 ≤ x.toInt) && decide (x.toInt ≤ k.2.2.2))
  | .ref r => k.1 == 2 && decide (r ∈ RG k.2.1)
  | _ => false
theorem gkB_ok {RG : Nat → List Nat} {k : Kd} {v : Value} (h : gkB RG k v = true) : gk RG k v := by
  unfold gkB at h
  unfold gk
  split at h <;> simp_all
def hshB (q : Hk) (x : Pc) : Bool := match q.1, x with
  | 0, .inr (a, fs) => a == q.2.1 && fs.length == q.2.2.1
  | 1, .inl (t, k, .inl _) => t == q.2.1 && k == q.2.2.1
  | 2, .inl (t, k, .inr (.inl _)) => t == q.2.1 && k == q.2.2.1
  | 3, .inl (t, k, .inr (.inr (.inr (.inr _)))) => t == q.2.1 && k == q.2.2.1
  | _, _ => false
theorem hshB_ok {q : Hk} {x : Pc} (h : hshB q x = true) : hsh q x := by
  unfold hshB at h
  unfold hsh
  split at h
  all_goals first | (cases h; done) | skip
  all_goals rename_i e
  all_goals simp only [Bool.and_eq_true, beq_iff_eq] at h
  all_goals rw [e]
  all_goals obtain ⟨rfl, h2⟩ := h
  · exact ⟨_, rfl, h2⟩
  all_goals subst h2
  all_goals exact ⟨_, rfl⟩
def ceB (RG : Nat → List Nat) (q : Hk) (x : Pc) : Bool := hshB q x && q.2.2.2.all fun r => (List.range (r.2.1 - r.1)).all fun j => match pm_slot x (r.1 + j) with
  | some v => gkB RG r.2.2 v
  | none => false
def ceP (RG : Nat → List Nat) (q : Hk) (x : Pc) : Prop := hsh q x ∧ ∀ r ∈ q.2.2.2, ∀ j, r.1 ≤ j → j < r.2.1 → ∃ v, pm_slot x j = some v ∧ gk RG r.2.2 v
theorem ceB_ok {RG : Nat → List Nat} {q : Hk} {x : Pc} (h : ceB RG q x = true) : ceP RG q x := by
  unfold ceB at h
  rw [Bool.and_eq_true] at h
  refine ⟨hshB_ok h.1, fun r hr j h1 h2 => ?_⟩
  have h3 := List.all_eq_true.mp (List.all_eq_true.mp h.2 r hr) (j - r.1) (List.mem_range.mpr (by omega))
  rw [show r.1 + (j - r.1) = j by omega] at h3
  split at h3
  · rename_i v hv
    exact ⟨v, hv, gkB_ok h3⟩
  · cases h3
theorem hZ_0 : ((List.range 16).all fun j => ceB RGw (HTw (0 + j)) (hZ (0 + j))) = true := by decide +kernel
theorem hZ_1 : ((List.range 16).all fun j => ceB RGw (HTw (16 + j)) (hZ (16 + j))) = true := by decide +kernel
theorem hZ_2 : ((List.range 16).all fun j => ceB RGw (HTw (32 + j)) (hZ (32 + j))) = true := by decide +kernel
theorem hZ_3 : ((List.range 16).all fun j => ceB RGw (HTw (48 + j)) (hZ (48 + j))) = true := by decide +kernel
theorem hZ_4 : ((List.range 16).all fun j => ceB RGw (HTw (64 + j)) (hZ (64 + j))) = true := by decide +kernel
theorem hZ_5 : ((List.range 16).all fun j => ceB RGw (HTw (80 + j)) (hZ (80 + j))) = true := by decide +kernel
theorem hZ_6 : ((List.range 16).all fun j => ceB RGw (HTw (96 + j)) (hZ (96 + j))) = true := by decide +kernel
theorem hZ_7 : ((List.range 16).all fun j => ceB RGw (HTw (112 + j)) (hZ (112 + j))) = true := by decide +kernel
theorem hZ_8 : ((List.range 16).all fun j => ceB RGw (HTw (128 + j)) (hZ (128 + j))) = true := by decide +kernel
theorem hZ_9 : ((List.range 16).all fun j => ceB RGw (HTw (144 + j)) (hZ (144 + j))) = true := by decide +kernel
theorem hZ_10 : ((List.range 16).all fun j => ceB RGw (HTw (160 + j)) (hZ (160 + j))) = true := by decide +kernel
theorem hZ_11 : ((List.range 16).all fun j => ceB RGw (HTw (176 + j)) (hZ (176 + j))) = true := by decide +kernel
theorem hZ_12 : ((List.range 16).all fun j => ceB RGw (HTw (192 + j)) (hZ (192 + j))) = true := by decide +kernel
theorem hZ_13 : ((List.range 16).all fun j => ceB RGw (HTw (208 + j)) (hZ (208 + j))) = true := by decide +kernel
theorem hZ_14 : ((List.range 5).all fun j => ceB RGw (HTw (224 + j)) (hZ (224 + j))) = true := by decide +kernel
theorem HTw_far (c : Nat) (h : (HTw c).1 < 4) : c < 229 := by
  rcases Nat.lt_or_ge c 229 with h1 | h1
  · exact h1
  · exfalso
    have e : (HTw c).1 = 9 := by
      unfold HTw
      rcases Nat.lt_or_ge c 240 with h2 | h2
      · have : c = 229 ∨ c = 230 ∨ c = 231 ∨ c = 232 ∨ c = 233 ∨ c = 234 ∨ c = 235 ∨ c = 236 ∨ c = 237 ∨ c = 238 ∨ c = 239 := by omega
        rcases this with rfl | rfl | rfl | rfl | rfl | rfl | rfl | rfl | rfl | rfl | rfl <;> rfl
      · rw [show hts[c / 16]? = none from List.getElem?_eq_none (by show 15 ≤ c / 16; omega)]
        rfl
    omega
theorem hZ_c (c : Nat) (h : c < 229) : ceP RGw (HTw c) (hZ c) := by
  have : c / 16 = 0 ∨ c / 16 = 1 ∨ c / 16 = 2 ∨ c / 16 = 3 ∨ c / 16 = 4 ∨ c / 16 = 5 ∨ c / 16 = 6 ∨ c / 16 = 7 ∨ c / 16 = 8 ∨ c / 16 = 9 ∨ c / 16 = 10 ∨ c / 16 = 11 ∨ c / 16 = 12 ∨ c / 16 = 13 ∨ c / 16 = 14 := by omega
  have e : c = 16 * (c / 16) + c % 16 := by omega
  have m : c % 16 < 16 := Nat.mod_lt _ (by decide)
  rcases this with q | q | q | q | q | q | q | q | q | q | q | q | q | q | q
  · have t := List.all_eq_true.mp hZ_0 (c % 16) (List.mem_range.mpr (by omega))
    rw [show 0 + c % 16 = c by omega] at t
    exact ceB_ok t
  · have t := List.all_eq_true.mp hZ_1 (c % 16) (List.mem_range.mpr (by omega))
    rw [show 16 + c % 16 = c by omega] at t
    exact ceB_ok t
  · have t := List.all_eq_true.mp hZ_2 (c % 16) (List.mem_range.mpr (by omega))
    rw [show 32 + c % 16 = c by omega] at t
    exact ceB_ok t
  · have t := List.all_eq_true.mp hZ_3 (c % 16) (List.mem_range.mpr (by omega))
    rw [show 48 + c % 16 = c by omega] at t
    exact ceB_ok t
  · have t := List.all_eq_true.mp hZ_4 (c % 16) (List.mem_range.mpr (by omega))
    rw [show 64 + c % 16 = c by omega] at t
    exact ceB_ok t
  · have t := List.all_eq_true.mp hZ_5 (c % 16) (List.mem_range.mpr (by omega))
    rw [show 80 + c % 16 = c by omega] at t
    exact ceB_ok t
  · have t := List.all_eq_true.mp hZ_6 (c % 16) (List.mem_range.mpr (by omega))
    rw [show 96 + c % 16 = c by omega] at t
    exact ceB_ok t
  · have t := List.all_eq_true.mp hZ_7 (c % 16) (List.mem_range.mpr (by omega))
    rw [show 112 + c % 16 = c by omega] at t
    exact ceB_ok t
  · have t := List.all_eq_true.mp hZ_8 (c % 16) (List.mem_range.mpr (by omega))
    rw [show 128 + c % 16 = c by omega] at t
    exact ceB_ok t
  · have t := List.all_eq_true.mp hZ_9 (c % 16) (List.mem_range.mpr (by omega))
    rw [show 144 + c % 16 = c by omega] at t
    exact ceB_ok t
  · have t := List.all_eq_true.mp hZ_10 (c % 16) (List.mem_range.mpr (by omega))
    rw [show 160 + c % 16 = c by omega] at t
    exact ceB_ok t
  · have t := List.all_eq_true.mp hZ_11 (c % 16) (List.mem_range.mpr (by omega))
    rw [show 176 + c % 16 = c by omega] at t
    exact ceB_ok t
  · have t := List.all_eq_true.mp hZ_12 (c % 16) (List.mem_range.mpr (by omega))
    rw [show 192 + c % 16 = c by omega] at t
    exact ceB_ok t
  · have t := List.all_eq_true.mp hZ_13 (c % 16) (List.mem_range.mpr (by omega))
    rw [show 208 + c % 16 = c by omega] at t
    exact ceB_ok t
  · have t := List.all_eq_true.mp hZ_14 (c % 16) (List.mem_range.mpr (by omega))
    rw [show 224 + c % 16 = c by omega] at t
    exact ceB_ok t
theorem hI0_of {h : Ph} (H : ∀ c, c < 229 → ceP RGw (HTw c) (h c)) : hI0 HTw RGw 229 h := fun c hc => ⟨HTw_far c hc, (H c (HTw_far c hc)).1, (H c (HTw_far c hc)).2⟩
theorem ce_u {h : Ph} {k : Nat} {x : Pc} (H : ∀ c, c < 229 → ceP RGw (HTw c) (h c)) (hx : ceP RGw (HTw k) x) : ∀ c, c < 229 → ceP RGw (HTw c) (pm_u h k x c) := by
  intro c hc
  unfold pm_u
  split
  · rename_i e; rw [e]; exact hx
  · exact H c hc
theorem slI {t k j : Nat} {f : Nat → Int32} (h : j < k) : pm_slot (.inl (t, k, .inl f)) j = some (.int (f j)) := by
  show (if j < k then _ else _) = _
  rw [if_pos h]
theorem slJ {t k j : Nat} {f : Nat → Int64} (h : j < k) : pm_slot (.inl (t, k, .inr (.inl f))) j = some (.long (f j)) := by
  show (if j < k then _ else _) = _
  rw [if_pos h]
theorem ce_I {t k : Nat} {f : Nat → Int32} : ceP RGw (1, t, k, [(0, k, (0, 0, -2147483648, 2147483647))]) (.inl (t, k, .inl f)) := by
  refine ⟨⟨f, rfl⟩, fun r hr j h1 h2 => ?_⟩
  obtain rfl := List.mem_singleton.mp hr
  exact ⟨_, slI h2, rfl, Int32.le_toInt _, by show (f j).toInt ≤ 2147483647; have := Int32.toInt_lt (f j); omega⟩
theorem ce_J {t k : Nat} {f : Nat → Int64} : ceP RGw (2, t, k, [(0, k, (1, 0, -9223372036854775808, 9223372036854775807))]) (.inl (t, k, .inr (.inl f))) := by
  refine ⟨⟨f, rfl⟩, fun r hr j h1 h2 => ?_⟩
  obtain rfl := List.mem_singleton.mp hr
  exact ⟨_, slJ h2, rfl, Int64.le_toInt _, by show (f j).toInt ≤ 9223372036854775807; have := Int64.toInt_lt (f j); omega⟩
theorem ce_E {t k : Nat} {f : Nat → Int32} (h : ∀ q, q < k → f q = (-1 : Int32)) : ceP RGw (1, t, k, [(0, k, (0, 0, -1, 9))]) (.inl (t, k, .inl f)) := by
  refine ⟨⟨f, rfl⟩, fun r hr j h1 h2 => ?_⟩
  obtain rfl := List.mem_singleton.mp hr
  refine ⟨_, slI h2, rfl, ?_, ?_⟩
  · show (-1 : Int) ≤ (f j).toInt; rw [h j h2]; decide
  · show (f j).toInt ≤ 9; rw [h j h2]; decide
def hW (fk : Nat → Int64) (f1 : Nat → Int32) (e1 : Nat → Int32) (f2 : Nat → Int32) (e2 : Nat → Int32) : Ph := pm_u (pm_u (pm_u (pm_u (pm_u (hZ) 3 (.inl (1, 28, .inr (.inl fk)))) 37 (.inl (0, 1000, .inl f1))) 41 (.inl (0, 30, .inl e1))) 73 (.inl (0, 1000, .inl f2))) 77 (.inl (0, 30, .inl e2))
theorem hW_0 (fk : Nat → Int64) (f1 : Nat → Int32) (e1 : Nat → Int32) (f2 : Nat → Int32) (e2 : Nat → Int32) (he1 : ∀ q, q < 30 → e1 q = (-1 : Int32)) (he2 : ∀ q, q < 30 → e2 q = (-1 : Int32)) : hI0 HTw RGw 229 (hW fk f1 e1 f2 e2) := hI0_of (ce_u (ce_u (ce_u (ce_u (ce_u hZ_c ce_J) ce_I) (ce_E he1)) ce_I) (ce_E he2))
theorem hW_s (fk : Nat → Int64) (f1 : Nat → Int32) (e1 : Nat → Int32) (f2 : Nat → Int32) (e2 : Nat → Int32) (c j : Nat) (h : c = 192 ∨ c = 193 ∨ c = 194 ∨ c = 172) : pm_slot (hW fk f1 e1 f2 e2 c) j = pm_slot (hZ c) j := by
  rcases h with rfl | rfl | rfl | rfl <;> rfl
theorem hZ_X : xp hZ ∧ yp hZ := ⟨⟨by decide +kernel, [], by decide +kernel⟩, ⟨[], by decide +kernel⟩, ⟨[], by decide +kernel⟩⟩
