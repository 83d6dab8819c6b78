/-! a long check in pieces -/
theorem all_ch {α : Type} {l : List α} {f : α → Bool} {m n : Nat} (hm : 0 < m) (hl : l.length ≤ m * n) (h : ∀ i, i < n → ((l.drop (m * i)).take m).all f = true) : l.all f = true := by
  rw [List.all_eq_true]
  intro x hx
  obtain ⟨j, hj⟩ := List.mem_iff_getElem?.mp hx
  have hjl := (List.getElem?_eq_some_iff.mp hj).1
  refine List.all_eq_true.mp (h (j / m) (Nat.div_lt_of_lt_mul (by omega))) x (List.mem_iff_getElem?.mpr ⟨j % m, ?_⟩)
  rw [List.getElem?_take_of_lt (Nat.mod_lt _ hm), List.getElem?_drop, Nat.div_add_mod]
  exact hj
def chkA (HT : Nat → Hk) (RG : Nat → List Nat) (FK : Nat → Bool) (UN : Nat → Option Nat) (KC : Nat → Option Nat) (MT : Nat → Option Me) (EX : Op0 → Ab → Option (List Ab)) (P : Nat → Option Op0) (nL rt : Nat) (cs : Nat → List Cx) (f : Nat) (cx : Cx) (pcs : List Nat) (cuts : List (Cu × Rk)) : Bool :=
  decide (cx.2.2.1 ≤ nL) && decide (0 < cx.2.1) && cuts.all (fun c => rkB c.1.1.2.2.2.1 c.2)
  && rn RG P (nxA HT RG FK UN KC MT EX cx.2.2.2.1 cx.2.1 cs) cx.2.2.2.2.1.1.2.2.2.1.length rt cx.2.2.2.2.2 pcs cuts none f cx.2.2.2.2.1.1
def chkF (HT : Nat → Hk) (RG : Nat → List Nat) (FK : Nat → Bool) (UN : Nat → Option Nat) (KC : Nat → Option Nat) (MT : Nat → Option Me) (EX : Op0 → Ab → Option (List Ab)) (P : Nat → Option Op0) (rt : Nat) (cs : Nat → List Cx) (f : Nat) (cx : Cx) (pcs : List Nat) (cuts : List (Cu × Rk)) (c : Cu × Rk) : Bool := rn RG P (nxA HT RG FK UN KC MT EX cx.2.2.2.1 cx.2.1 cs) cx.2.2.2.2.1.1.2.2.2.1.length rt cx.2.2.2.2.2 pcs cuts (some c.2) f c.1.1
theorem chk_of {HT : Nat → Hk} {RG : Nat → List Nat} {FK : Nat → Bool} {UN : Nat → Option Nat} {KC : Nat → Option Nat} {MT : Nat → Option Me} {EX : Op0 → Ab → Option (List Ab)} {P : Nat → Option Op0} {nL rt : Nat} {cs : Nat → List Cx} {f : Nat} {cx : Cx} {pcs : List Nat} {cuts : List (Cu × Rk)} (h1 : chkA HT RG FK UN KC MT EX P nL rt cs f cx pcs cuts = true) (h2 : cuts.all (chkF HT RG FK UN KC MT EX P rt cs f cx pcs cuts) = true) : chk HT RG FK UN KC MT EX P nL rt cs f cx pcs cuts = true := by
  show (chkA HT RG FK UN KC MT EX P nL rt cs f cx pcs cuts && cuts.all (chkF HT RG FK UN KC MT EX P rt cs f cx pcs cuts)) = true
  rw [h1, h2]
  rfl
