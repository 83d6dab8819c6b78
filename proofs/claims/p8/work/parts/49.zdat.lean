/-! what a town tells, by columns: names by kind (0 houses, 2 things, 3 people, 4 hills), numbers by 10 * kind + which; heap, walk (-1: not told), price (told: 1) -/
abbrev ZD : Type := (Nat → List (List Int)) × (Nat → List Int) × Int × Int × Int
def dN (D : ZD) (k : Nat) : List (List Int) := D.1 k
def dC (D : ZD) (c : Nat) : List Int := D.2.1 c
def dHeap (D : ZD) : Int := D.2.2.1
def dWalk (D : ZD) : Int := D.2.2.2.1
def dPr (D : ZD) : Int := D.2.2.2.2
def d0 : ZD := (fun _ => [], fun _ => [], -1, -1, 0)
def cnt (D : ZD) (k : Nat) : Nat := if k = 1 then (dC D 10).length else (dN D k).length
def most (k : Nat) : Nat := if k = 0 then 5 else if k = 1 then 10 else if k = 2 then 4 else if k = 3 then 5 else 4
/-- where a word stands first; -1: nowhere -/
def ixW (w : List Int) : List (List Int) → Int
  | [] => -1
  | v :: vs => if v = w then 0 else if ixW w vs = -1 then -1 else ixW w vs + 1
def told (D : ZD) (w : List Int) : Bool := (dN D 0).contains w || ((dN D 2).contains w || ((dN D 3).contains w || (dN D 4).contains w))
/-- the flight of a house from a floor; -1: none -/
def fxI (D : ZD) (h f : Int) : Int := fxl h f (dC D 10) (dC D 11)
where fxl (h f : Int) : List Int → List Int → Int
  | a :: as, b :: bs => if a = h ∧ b = f then 0 else if fxl h f as bs = -1 then -1 else fxl h f as bs + 1
  | _, _ => -1
def flr (D : ZD) (h : Int) : Int := if 0 ≤ h ∧ h < (dN D 0).length then ((dC D 0)[h.toNat]?).getD 0 else -1
def addN (D : ZD) (k : Nat) (w : List Int) : ZD := (fun j => if j = k then D.1 j ++ [w] else D.1 j, D.2)
/-- a row told: its numbers behind the columns of its kind -/
def addR (D : ZD) (k : Nat) (vs : List Int) : ZD := (D.1, fun c => if c / 10 = k then (match vs[c % 10]? with
  | some v => D.2.1 c ++ [v]
  | none => D.2.1 c) else D.2.1 c, D.2.2)
section Zpa
variable (T : Nat → Int) (n : Nat)
def gNew (D : ZD) (x : PS) : PS := if (gNm T n x).1 = 0 ∧ told D (eW T n (kB T n x.2)) = true then gF T n 3 (gNm T n x) else gNx T n (gNm T n x)
def gTo (ws : List (List Int)) (x : PS) : PS := if (gNm T n x).1 = 0 ∧ ixW (eW T n (kB T n x.2)) ws = -1 then gF T n 2 (gNm T n x) else gNx T n (gNm T n x)
def vTo (ws : List (List Int)) (x : PS) : Int := if (gNm T n x).1 = 0 then ixW (eW T n (kB T n x.2)) ws else -1
def gPl (D : ZD) (x : PS) : PS := gN T n 0 (flr D (vTo T n (dN D 0) x)) (gTo T n (dN D 0) x)
def vPl (D : ZD) (x : PS) : Int := if (gPl T n D x).1 = 0 then vTo T n (dN D 0) x * 6 + eM T n (kB T n (gTo T n (dN D 0) x).2) else -1
def gFi (D : ZD) (k : Nat) (x : PS) : PS := if most k ≤ cnt D k then gF T n 5 x else gNx T n x
def gOn (b : Bool) (x : PS) : PS := if b = true then gF T n 3 x else gNx T n x
def vE (x : PS) : Int := eM T n (kB T n x.2)
def pHouse (x : PS) (D : ZD) : PS × ZD :=
  let x1 := gFi T n D 0 x
  let x2 := gNew T n D x1
  let x3 := gW T n 1 x2
  let x4 := gN T n 1 5 x3
  let x5 := gS T n 59 x4
  (x5, if x5.1 = 0 then addR (addN D 0 (eW T n (kB T n x1.2))) 0 [vE T n x3] else D)
def pFlight (x : PS) (D : ZD) : PS × ZD :=
  let x1 := gFi T n D 1 x
  let x2 := gTo T n (dN D 0) x1
  let h := vTo T n (dN D 0) x1
  let x3 := gNh T n x2
  let x4 := if x3.1 = 0 ∧ fxI D h (vE T n x2) ≠ -1 then gF T n 3 x3 else x3
  let x5 := gN T n 0 (flr D h - 1) x4
  let x6 := gW T n 3 x5
  let x7 := gN T n 1 40 x6
  let x8 := gW T n 4 x7
  let x9 := gN T n 0 10 x8
  let x10 := gS T n 59 x9
  (x10, if x10.1 = 0 then addR D 1 [h, vE T n x4, vE T n x6, vE T n x8] else D)
def pThing (x : PS) (D : ZD) : PS × ZD :=
  let x1 := gFi T n D 2 x
  let x2 := gNew T n D x1
  let x3 := gW T n 6 x2
  let x4 := gN T n 1 40 x3
  let x5 := gW T n 7 x4
  let x6 := gPl T n D x5
  let x7 := gS T n 59 x6
  (x7, if x7.1 = 0 then addR (addN D 2 (eW T n (kB T n x1.2))) 2 [vE T n x3, vPl T n D x5] else D)
def pPerson (x : PS) (D : ZD) : PS × ZD :=
  let x1 := gFi T n D 3 x
  let x2 := gNew T n D x1
  let x3 := gW T n 7 x2
  let x4 := gPl T n D x3
  let x5 := gW T n 9 x4
  let x6 := gN T n 0 40 x5
  let x7 := gW T n 10 x6
  let x8 := gN T n 0 6 x7
  let x9 := gW T n 11 x8
  let x10 := gPl T n D x9
  let x11 := gS T n 59 x10
  (x11, if x11.1 = 0 then addR (addN D 3 (eW T n (kB T n x1.2))) 3 [vPl T n D x3, vE T n x5, vE T n x7, vPl T n D x9] else D)
def pHill (x : PS) (D : ZD) : PS × ZD :=
  let x1 := gFi T n D 4 x
  let x2 := gNew T n D x1
  let x3 := gW T n 3 x2
  let x4 := gN T n 1 99 x3
  let x5 := gW T n 13 x4
  let x6 := gN T n 0 99 x5
  let x7 := gS T n 59 x6
  (x7, if x7.1 = 0 then addR (addN D 4 (eW T n (kB T n x1.2))) 4 [vE T n x3, vE T n x5] else D)
def pHeap (x : PS) (D : ZD) : PS × ZD :=
  let x1 := gOn T n (decide (dHeap D ≠ -1)) x
  let x2 := gN T n 0 999 x1
  let x3 := gS T n 59 x2
  (x3, (D.1, D.2.1, vE T n x1, D.2.2.2))
def pWalk (x : PS) (D : ZD) : PS × ZD :=
  let x1 := gOn T n (decide (dWalk D ≠ -1)) x
  let x2 := gN T n 0 60 x1
  let x3 := gS T n 59 x2
  (x3, (D.1, D.2.1, D.2.2.1, vE T n x1, D.2.2.2.2))
/-- the law of price: what stands open is a list, the deepest first: by not, a test compared; the last one is the outermost -/
def popZ : List (Bool × Bool) → List (Bool × Bool)
  | a :: b :: l => if a.1 = true then popZ (b :: l) else a :: b :: l
  | l => l
def isFa (b : Nat) : Bool := decide (eQ T n b = 2) && decide (25 ≤ kwi (eW T n b))
def isKw (b : Nat) (i : Int) : Bool := decide (eQ T n b = 2) && decide (kwi (eW T n b) = i)
def isSg (b : Nat) (c : Int) : Bool := decide (eQ T n b = 4) && decide (T b = c)
def isNu (b : Nat) : Bool := decide (eQ T n b = 3)
def setC (c : Bool) : List (Bool × Bool) → List (Bool × Bool)
  | a :: l => (a.1, c) :: l
  | [] => []
def cmpd : List (Bool × Bool) → Bool
  | a :: _ => a.2
  | [] => false
def aRun : Nat → Nat → Bool → List (Bool × Bool) → PS
  | 0, p, _, _ => (0, p)
  | f + 1, p, true, l =>
    let b := kB T n p
    if isFa T n b = false ∧ isKw T n b 22 = false ∧ isSg T n b 40 = false ∧ isNu T n b = false then gF T n 1 (0, p)
    else if l.length = 6 then gF T n 5 (0, p)
    else if isKw T n b 22 = true then aRun f (kE T n p) true ((true, false) :: l)
    else if isSg T n b 40 = true then aRun f (kE T n p) true ((false, false) :: l)
    else aRun f (kE T n p) false (popZ l)
  | f + 1, p, false, l =>
    let b := kB T n p
    if isSg T n b 43 = true ∨ isSg T n b 45 = true ∨ isSg T n b 42 = true then aRun f (kE T n p) true l
    else if (isSg T n b 60 = true ∨ isSg T n b 61 = true) ∧ cmpd l = false then aRun f (kE T n p) true (setC true l)
    else if isKw T n b 23 = true ∨ isKw T n b 24 = true then aRun f (kE T n p) true (setC false l)
    else if isSg T n b 41 = true ∧ 1 < l.length then aRun f (kE T n p) false (popZ l.tail)
    else if l.length = 1 ∧ isSg T n b 59 = true then (0, kE T n p)
    else gF T n 1 (0, p)
def pPrice (x : PS) (D : ZD) : PS × ZD :=
  let x1 := gOn T n (decide (dPr D ≠ 0)) x
  (if x1.1 = 0 then aRun T n (n + 2 - x1.2) x1.2 true [(false, false)] else x1, (D.1, D.2.1, D.2.2.1, D.2.2.2.1, 1))
def pLine (x : PS) (D : ZD) : PS × ZD :=
  let b := kB T n x.2
  let k := if eQ T n b = 2 then kwi (eW T n b) else -1
  if k = 0 then pHouse T n x D else if k = 2 then pFlight T n x D else if k = 5 then pThing T n x D else if k = 8 then pPerson T n x D else if k = 12 then pHill T n x D
  else if k = 14 then pHeap T n x D else if k = 15 then pWalk T n x D else if k = 16 then pPrice T n x D else (gF T n 1 x, D)
def pAll : Nat → PS → ZD → PS × ZD
  | 0, x, D => (x, D)
  | f + 1, x, D => if x.1 = 0 ∧ eQ T n (kB T n x.2) ≠ 1 then pAll f (pLine T n x D).1 (pLine T n x D).2 else (x, D)
end Zpa
/-! small things about them -/
theorem ixW_bd {w : List Int} : ∀ ws : List (List Int), -1 ≤ ixW w ws ∧ ixW w ws < ws.length
  | [] => ⟨by show (-1 : Int) ≤ -1; omega, by show (-1 : Int) < 0; omega⟩
  | v :: vs => by
    have h := ixW_bd (w := w) vs
    unfold ixW
    rw [List.length_cons]
    split
    · omega
    · split <;> omega
theorem ixW_no {w : List Int} : ∀ {ws : List (List Int)}, ixW w ws = -1 → ∀ i : Nat, ∀ v, ws[i]? = some v → v ≠ w
  | [], _, i, v, hv => by simp at hv
  | u :: us, h, i, v, hv => by
    unfold ixW at h
    split at h
    · omega
    · rename_i hu
      split at h
      · rename_i h2
        cases i with
        | zero => cases hv; exact hu
        | succ i => exact ixW_no h2 i v (by simpa using hv)
      · have := ixW_bd (w := w) us
        omega
theorem ixW_yes {w : List Int} : ∀ {ws : List (List Int)} {k : Nat}, ws[k]? = some w → (∀ i, i < k → ∀ v, ws[i]? = some v → v ≠ w) → ixW w ws = (k : Int)
  | [], k, h, _ => by simp at h
  | u :: us, 0, h, _ => by
    cases h
    unfold ixW
    rw [if_pos rfl]
    rfl
  | u :: us, k + 1, h, hn => by
    have h1 : us[k]? = some w := by simpa using h
    have h2 := ixW_yes h1 (fun i hi v hv => hn (i + 1) (by omega) v (by simpa using hv))
    unfold ixW
    rw [if_neg (hn 0 (by omega) u rfl), h2, if_neg (by omega)]
    omega
theorem ixW_mem {w : List Int} : ∀ {ws : List (List Int)}, ixW w ws ≠ -1 ↔ w ∈ ws
  | [] => ⟨fun h => absurd rfl h, fun h => by cases h⟩
  | u :: us => by
    have ih := ixW_mem (w := w) (ws := us)
    unfold ixW
    by_cases hu : u = w
    · rw [if_pos hu]
      exact ⟨fun _ => by rw [hu]; exact List.mem_cons_self, fun _ => by decide⟩
    · rw [if_neg hu]
      have hb := ixW_bd (w := w) us
      by_cases h2 : ixW w us = -1
      · rw [if_pos h2]
        refine ⟨fun h => absurd rfl h, fun h => ?_⟩
        rcases List.mem_cons.mp h with h | h
        · exact absurd h.symm hu
        · exact fun _ => (ih.mpr h) h2
      · rw [if_neg h2]
        exact ⟨fun _ => List.mem_cons_of_mem _ (ih.mp h2), fun _ => by omega⟩
/-- a search of the first one, as both sides do it -/
def fnx (f : Nat → Bool) : Nat → Nat → Int
  | 0, _ => -1
  | m + 1, k => if f k = true then (k : Int) else fnx f m (k + 1)
theorem fnx_ixW {w : List Int} {f : Nat → Bool} : ∀ (ws : List (List Int)) (k : Nat), (∀ i v, ws[i]? = some v → (f (k + i) = true ↔ v = w)) → fnx f ws.length k = if ixW w ws = -1 then -1 else ixW w ws + k
  | [], k, _ => by
    show (-1 : Int) = if (-1 : Int) = -1 then -1 else _
    rw [if_pos rfl]
  | u :: us, k, h => by
    have h0 := h 0 u rfl
    rw [Nat.add_zero] at h0
    have ih := fnx_ixW (f := f) us (k + 1) (fun i v hv => by rw [show k + 1 + i = k + (i + 1) from by omega]; exact h (i + 1) v (by simpa using hv))
    have hb := ixW_bd (w := w) us
    rw [List.length_cons]
    unfold fnx ixW
    by_cases hu : u = w
    · rw [if_pos (h0.mpr hu), if_pos hu, if_neg (by decide)]
      omega
    · rw [if_neg (fun e => hu (h0.mp e)), if_neg hu, ih]
      by_cases h2 : ixW w us = -1
      · rw [if_pos h2, if_pos h2, if_pos rfl]
      · rw [if_neg h2, if_neg h2, if_neg (by omega)]
        omega
